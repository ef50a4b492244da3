/-! is, makes, isSo, told, knock, isSound, added, house -/
theorem cs10_224 : Cond.constantLong RX10 224 31 ∈ WT := WT_of (by decide +kernel) rfl
section M39
variable {la : Launch} {D : va_G} {cA : Nat → ClassId} {B0 pa : Nat} {o S A : Nat} {sl : List (List Nat)} {an : List (List (List Nat))} {a r kn th : Int32}
set_option maxHeartbeats 4000000 in
theorem c_is (h : AH) (M : MD h o S A sl an a r kn th) (x1 x2 x3 : Int32) : CT la D cA B0 pa yX10_is cX10_is 4 (some .boolean) (rmD 4 25 48) [.ref o, .int x1, .int x2, .int x3] h (booR o S A kn h) := by
  refine CT_of (by decide +kernel) (Nat.le_of_ble_eq_true rfl) ?_
  intro p e s m args below meth c X E hr hlk hnm
  have dk : ∀ {pc : Nat} {q : Instr × Nat}, lkd DX10_is pc = some q → decode cX10_is pc = .ok q := lkd_ok DX10_is_ok
  have mid2 : ∀ t1 t2 : Bool, (t1 = false → inN 6 x1 ∧ inN 6 x2) → (t2 = false → inN 3 x3) → WR p la e (rmD 4 25 48) s m args below meth c D cA B0 4 (booR o S A kn h) 34 (lv_args 0 [.ref o, .int x1, .int x2, .int x3]) [.int (bI t2), .int (bI t1), .ref o] h 0 0 := by
    intro t1 t2 ht1 ht2
    refine thr2_ok X E M ⟨Nat.le_of_ble_eq_true rfl, Nat.le_of_ble_eq_true rfl⟩ ⟨Nat.le_of_ble_eq_true rfl, Nat.le_of_ble_eq_true rfl⟩ (Nat.le_of_ble_eq_true rfl) (dk rfl) (fun h1 a1 r1 th1 M1 F1 => ?_)
    cases hb : (t1 || t2) with
    | true =>
      refine br_ok X (dk rfl) rfl (show ((37 : Nat) : Int) + 5 = ((42 : Nat) : Int) from rfl) (fun q => absurd q bI_t) (fun _ => ?_)
      refine fst1_ok X (dk rfl) rfl ?_
      exact reti_ok X hr hlk (bI_n false) (dk rfl) ⟨⟨false, rfl⟩, ⟨_, _, _, _, _, M1⟩, F1⟩ (Nat.zero_le _) (Nat.zero_le _)
    | false =>
      refine br_ok X (dk rfl) rfl (show ((37 : Nat) : Int) + 5 = ((42 : Nat) : Int) from rfl) (fun _ => ?_) (fun q => absurd bI_f' q)
      obtain ⟨hb1, hb2⟩ := Bool.or_eq_false_iff.mp hb
      obtain ⟨⟨j1, hj1, rfl⟩, ⟨j2, hj2, rfl⟩⟩ := ht1 hb1
      obtain ⟨j3, hj3, rfl⟩ := ht2 hb2
      obtain ⟨ss, s1, s2, s3⟩ := M1.slot
      obtain ⟨as, a1, a2, a3⟩ := M1.ans
      obtain ⟨b1, y1, e1, f1, g1, w1, n1⟩ := s3 j1 hj1
      have ly1 : (y1.map vI).length = y1.length := List.length_map _
      obtain ⟨b2, y2, e2, f2, g2, w2, n2⟩ := s3 j2 hj2
      have ly2 : (y2.map vI).length = y2.length := List.length_map _
      repeat refine fst1_ok X (dk rfl) rfl ?_
      refine br_ok X (dk rfl) rfl (show ((44 : Nat) : Int) + 27 = ((71 : Nat) : Int) from rfl) (fun _ => ?_) (fun _ => ?_)
      · repeat refine fst1_ok X (dk rfl) rfl ?_
        refine br_ok X (dk rfl) rfl (show ((72 : Nat) : Int) + 21 = ((93 : Nat) : Int) from rfl) (fun _ => ?_) (fun _ => ?_)
        · repeat refine fst1_ok X (dk rfl) rfl ?_
          refine getf_ok X flX10_11 (dk rfl) M1.obj rfl ?_
          refine fst1_ok X (dk rfl) rfl ?_
          refine ldr_ok X (dk rfl) s2 e1 (by omega) ?_
          refine callS_ok (av := [.ref b1]) (r := []) X E (c_plainOf h1 g1 w1.2 n1) lkX10_plainOf mlX10_131 lsX10_plainOf ⟨Nat.le_of_ble_eq_true rfl, Nat.le_of_ble_eq_true rfl⟩ ⟨Nat.le_of_ble_eq_true rfl, by show 0 + (8 + y1.length) ≤ 48; omega⟩ (Nat.le_of_ble_eq_true rfl) (dk rfl) ?_
          rintro v h2 ⟨q, rfl, hq, hBq, XQ, hQ⟩
          obtain ⟨tp1, lp1⟩ := w1.plain
          obtain ⟨tp2, lp2⟩ := w2.plain
          refine WS.widen (k' := 2) (n' := 24) (Nat.le_of_ble_eq_true rfl) (by show 0 + (8 + y1.length) ≤ 24; omega) ?_
          have M2 := M1.ext XQ
          repeat refine fst1_ok X (dk rfl) rfl ?_
          refine getf_ok X flX10_11 (dk rfl) M2.obj rfl ?_
          refine fst1_ok X (dk rfl) rfl ?_
          refine ldr_ok X (dk rfl) (XQ _ _ s2) e2 (by omega) ?_
          refine callS_ok (av := [.ref b2]) (r := [.ref q]) X E (c_plainOf h2 (XQ _ _ g2) w2.2 n2) lkX10_plainOf mlX10_131 lsX10_plainOf ⟨Nat.le_of_ble_eq_true rfl, Nat.le_of_ble_eq_true rfl⟩ ⟨Nat.le_of_ble_eq_true rfl, by show 24 + (8 + y2.length) ≤ 48; omega⟩ (Nat.le_of_ble_eq_true rfl) (dk rfl) ?_
          rintro v h3 ⟨q3, rfl, hq3, hBq3, XQ3, hQ3⟩
          refine WS.widen (k' := 4) (n' := 48) (Nat.le_of_ble_eq_true rfl) (by show 24 + (8 + y2.length) ≤ 48; omega) ?_
          have M3 := M2.ext XQ3
          refine callS_ok (av := [.ref q, .ref q3]) (r := []) X E (c_same h3 (XQ3 _ _ hQ) hQ3 (by omega) (by omega) tp1.lt tp2.lt) lkX10_same mlX10_54 lsX10_same ⟨Nat.le_of_ble_eq_true rfl, Nat.le_of_ble_eq_true rfl⟩ ⟨Nat.le_of_ble_eq_true rfl, Nat.le_of_ble_eq_true rfl⟩ (Nat.le_of_ble_eq_true rfl) (dk rfl) ?_
          rintro v h4 ⟨rfl, rfl⟩
          rw [ite_bI]
          exact reti_ok X hr hlk (bI_n _) (dk rfl) ⟨⟨_, rfl⟩, ⟨_, _, _, _, _, M3⟩, F1.trans (Fr.ext (XQ.trans XQ3))⟩ (Nat.le_of_ble_eq_true rfl) (Nat.le_of_ble_eq_true rfl)
        · repeat refine fst1_ok X (dk rfl) rfl ?_
          refine getf_ok X flX10_11 (dk rfl) M1.obj rfl ?_
          refine fst1_ok X (dk rfl) rfl ?_
          refine ldr_ok X (dk rfl) s2 e1 (by omega) ?_
          repeat refine fst1_ok X (dk rfl) rfl ?_
          refine getf_ok X flX10_11 (dk rfl) M1.obj rfl ?_
          refine fst1_ok X (dk rfl) rfl ?_
          refine ldr_ok X (dk rfl) s2 e2 (by omega) ?_
          refine callS_ok (av := [.ref b1, .ref b2]) (r := []) X E (c_same h1 g1 g2 (by omega) (by omega) w1.lt w2.lt) lkX10_same mlX10_54 lsX10_same ⟨Nat.le_of_ble_eq_true rfl, Nat.le_of_ble_eq_true rfl⟩ ⟨Nat.le_of_ble_eq_true rfl, Nat.le_of_ble_eq_true rfl⟩ (Nat.le_of_ble_eq_true rfl) (dk rfl) ?_
          rintro v h4 ⟨rfl, rfl⟩
          rw [ite_bI]
          refine br_ok X (dk rfl) rfl (show ((90 : Nat) : Int) + 24 = ((114 : Nat) : Int) from rfl) (fun _ => ?_) (fun q => absurd trivial q)
          exact reti_ok X hr hlk (bI_n _) (dk rfl) ⟨⟨_, rfl⟩, ⟨_, _, _, _, _, M1⟩, F1⟩ (Nat.le_of_ble_eq_true rfl) (Nat.le_of_ble_eq_true rfl)
      · repeat refine fst1_ok X (dk rfl) rfl ?_
        refine getf_ok X flX10_11 (dk rfl) M1.obj rfl ?_
        refine fst1_ok X (dk rfl) rfl ?_
        refine ldr_ok X (dk rfl) s2 e2 (by omega) ?_
        repeat refine fst1_ok X (dk rfl) rfl ?_
        refine getf_ok X flX10_11 (dk rfl) M1.obj rfl ?_
        refine fst1_ok X (dk rfl) rfl ?_
        refine ldr_ok X (dk rfl) s2 e1 (by omega) ?_
        refine callS_ok (av := [.ref b2, .ref b1]) (r := []) X E (c_matched h1 g2 g1 w2.2 w1 n2 n1) lkX10_matched mlX10_169 lsX10_matched ⟨Nat.le_of_ble_eq_true rfl, Nat.le_of_ble_eq_true rfl⟩ ⟨Nat.le_of_ble_eq_true rfl, Nat.le_of_ble_eq_true rfl⟩ (Nat.le_of_ble_eq_true rfl) (dk rfl) ?_
        rintro v h2 ⟨hP, -⟩
        cases hm : matchL y2 y1 with
        | none =>
          rw [hm] at hP
          obtain ⟨rfl, XQ⟩ := hP
          refine br_ok X (dk rfl) rfl (show ((62 : Nat) : Int) + 7 = ((69 : Nat) : Int) from rfl) (fun _ => ?_) (fun q => absurd trivial q)
          refine fst1_ok X (dk rfl) rfl ?_
          exact reti_ok X hr hlk (bI_n false) (dk rfl) ⟨⟨false, rfl⟩, ⟨_, _, _, _, _, (M1.ext XQ)⟩, F1.trans (Fr.ext XQ)⟩ (Nat.le_of_ble_eq_true rfl) (Nat.le_of_ble_eq_true rfl)
        | some rows =>
          rw [hm] at hP
          obtain ⟨q, rfl, hq, hBq, XQ, nQ⟩ := hP
          refine br_ok X (dk rfl) rfl (show ((62 : Nat) : Int) + 7 = ((69 : Nat) : Int) from rfl) (fun q => absurd q (fun z => z)) (fun _ => ?_)
          refine fst1_ok X (dk rfl) rfl ?_
          refine br_ok X (dk rfl) rfl (show ((66 : Nat) : Int) + 4 = ((70 : Nat) : Int) from rfl) (fun _ => ?_) (fun q => absurd trivial q)
          exact reti_ok X hr hlk (bI_n true) (dk rfl) ⟨⟨true, rfl⟩, ⟨_, _, _, _, _, (M1.ext XQ)⟩, F1.trans (Fr.ext XQ)⟩ (Nat.le_of_ble_eq_true rfl) (Nat.le_of_ble_eq_true rfl)
  have mid1 : ∀ t1 : Bool, (t1 = false → inN 6 x1 ∧ inN 6 x2) → WR p la e (rmD 4 25 48) s m args below meth c D cA B0 4 (booR o S A kn h) 20 (lv_args 0 [.ref o, .int x1, .int x2, .int x3]) [.int (bI t1), .ref o] h 0 0 := by
    intro t1 ht1
    have mid2 := fun t2 => mid2 t1 t2 ht1
    iterate 1 refine fst1_ok X (dk rfl) rfl ?_
    have mid2T : ∀ l : List (Nat × Value), l = (lv_args 0 [.ref o, .int x1, .int x2, .int x3]) → WR p la e (rmD 4 25 48) s m args below meth c D cA B0 4 (booR o S A kn h) 29 l [.int (bI t1), .ref o] h 0 0 := by
      intro l hl
      rw [hl]
      refine fst1_ok X (dk rfl) rfl ?_
      refine br_ok X (dk rfl) rfl (show ((30 : Nat) : Int) + 4 = ((34 : Nat) : Int) from rfl) (fun _ => ?_) (fun q => absurd trivial q)
      exact mid2 true (fun z => by cases z)
    refine br_ok X (dk rfl) rfl (show ((21 : Nat) : Int) + 8 = ((29 : Nat) : Int) from rfl) (fun _ => mid2T _ rfl) (fun c1 => ?_)
    iterate 2 refine fst1_ok X (dk rfl) rfl ?_
    refine br_ok X (dk rfl) rfl (show ((26 : Nat) : Int) + 7 = ((33 : Nat) : Int) from rfl) (fun c2 => ?_) (fun _ => mid2T _ rfl)
    refine fst1_ok X (dk rfl) rfl ?_
    exact mid2 false (fun _ => inN_le (K := 2) (by omega) c1 (by rw [show nI 2 = Int32.ofInt 2 by decide +kernel]; exact c2))
  iterate 2 refine fst1_ok X (dk rfl) rfl ?_
  refine isSlot_ok X E mlX10_95 ⟨Nat.le_of_ble_eq_true rfl, Nat.le_of_ble_eq_true rfl⟩ ⟨Nat.le_of_ble_eq_true rfl, Nat.le_of_ble_eq_true rfl⟩ (Nat.le_of_ble_eq_true rfl) (dk rfl) (fun mid1b0 mid1h0 => ?_)
  cases mid1b0 with
  | false =>
    refine br_ok X (dk rfl) rfl (show ((5 : Nat) : Int) + 10 = ((15 : Nat) : Int) from rfl) (fun _ => ?_) (fun q => absurd bI_f' q)
    refine fst1_ok X (dk rfl) rfl ?_
    refine br_ok X (dk rfl) rfl (show ((16 : Nat) : Int) + 4 = ((20 : Nat) : Int) from rfl) (fun _ => ?_) (fun q => absurd trivial q)
    exact mid1 true (fun z => by cases z)
  | true =>
    refine br_ok X (dk rfl) rfl (show ((5 : Nat) : Int) + 10 = ((15 : Nat) : Int) from rfl) (fun q => absurd q bI_t) (fun _ => ?_)
    iterate 1 refine fst1_ok X (dk rfl) rfl ?_
    refine isSlot_ok X E mlX10_95 ⟨Nat.le_of_ble_eq_true rfl, Nat.le_of_ble_eq_true rfl⟩ ⟨Nat.le_of_ble_eq_true rfl, Nat.le_of_ble_eq_true rfl⟩ (Nat.le_of_ble_eq_true rfl) (dk rfl) (fun mid1b1 mid1h1 => ?_)
    cases mid1b1 with
    | false =>
      refine br_ok X (dk rfl) rfl (show ((12 : Nat) : Int) + 7 = ((19 : Nat) : Int) from rfl) (fun q => absurd q bI_f) (fun _ => ?_)
      refine fst1_ok X (dk rfl) rfl ?_
      refine br_ok X (dk rfl) rfl (show ((16 : Nat) : Int) + 4 = ((20 : Nat) : Int) from rfl) (fun _ => ?_) (fun q => absurd trivial q)
      exact mid1 true (fun z => by cases z)
    | true =>
      refine br_ok X (dk rfl) rfl (show ((12 : Nat) : Int) + 7 = ((19 : Nat) : Int) from rfl) (fun _ => ?_) (fun q => absurd bI_t q)
      refine fst1_ok X (dk rfl) rfl ?_
      exact mid1 false (fun _ => ⟨mid1h0 rfl, mid1h1 rfl⟩)
set_option maxHeartbeats 4000000 in
theorem c_makes (h : AH) (M : MD h o S A sl an a r kn th) (x1 x2 x3 : Int32) : CT la D cA B0 pa yX10_makes cX10_makes 4 (some .boolean) (rmD 3 34 544) [.ref o, .int x1, .int x2, .int x3] h (booR o S A kn h) := by
  refine CT_of (by decide +kernel) (Nat.le_of_ble_eq_true rfl) ?_
  intro p e s m args below meth c X E hr hlk hnm
  have dk : ∀ {pc : Nat} {q : Instr × Nat}, lkd DX10_makes pc = some q → decode cX10_makes pc = .ok q := lkd_ok DX10_makes_ok
  have mid1 : ∀ t1 : Bool, (t1 = false → inN 3 x1 ∧ inN 6 x2 ∧ inN 6 x3) → WR p la e (rmD 3 34 544) s m args below meth c D cA B0 4 (booR o S A kn h) 27 (lv_args 0 [.ref o, .int x1, .int x2, .int x3]) [.int (bI t1), .ref o] h 0 0 := by
    intro t1 ht1
    refine thr1_ok X E M ⟨Nat.le_of_ble_eq_true rfl, Nat.le_of_ble_eq_true rfl⟩ ⟨Nat.le_of_ble_eq_true rfl, Nat.le_of_ble_eq_true rfl⟩ (Nat.le_of_ble_eq_true rfl) (dk rfl) (fun h1 a1 r1 th1 M1 F1 => ?_)
    cases hb : t1 with
    | true =>
      refine br_ok X (dk rfl) rfl (show ((30 : Nat) : Int) + 43 = ((73 : Nat) : Int) from rfl) (fun _ => ?_) (fun q => absurd bI_t q)
      refine fst1_ok X (dk rfl) rfl ?_
      exact reti_ok X hr hlk (bI_n false) (dk rfl) ⟨⟨false, rfl⟩, ⟨_, _, _, _, _, M1⟩, F1⟩ (Nat.zero_le _) (Nat.zero_le _)
    | false =>
      obtain ⟨⟨j1, hj1, rfl⟩, ⟨j2, hj2, rfl⟩, ⟨j3, hj3, rfl⟩⟩ := ht1 hb
      obtain ⟨ss, s1, s2, s3⟩ := M1.slot
      obtain ⟨as, a1, a2, a3⟩ := M1.ans
      obtain ⟨b1, y1, e1, f1, g1, w1, n1⟩ := a3 j1 hj1
      obtain ⟨b2, y2, e2, f2, g2, w2, n2⟩ := s3 j2 hj2
      have ly2 : (y2.map vI).length = y2.length := List.length_map _
      obtain ⟨b3, y3, e3, f3, g3, w3, n3⟩ := s3 j3 hj3
      have ly3 : (y3.map vI).length = y3.length := List.length_map _
      refine br_ok X (dk rfl) rfl (show ((30 : Nat) : Int) + 43 = ((73 : Nat) : Int) from rfl) (fun q => absurd q bI_f) (fun _ => ?_)
      repeat refine fst1_ok X (dk rfl) rfl ?_
      refine getf_ok X flX10_16 (dk rfl) M1.obj rfl ?_
      refine fst1_ok X (dk rfl) rfl ?_
      refine lda_ok X (dk rfl) a2 e1 (by omega) ?_
      repeat refine fst1_ok X (dk rfl) rfl ?_
      refine getf_ok X flX10_11 (dk rfl) M1.obj rfl ?_
      refine fst1_ok X (dk rfl) rfl ?_
      refine ldr_ok X (dk rfl) s2 e2 (by omega) ?_
      have ul2 : (usedL y1 y2).length ≤ 256 := by have := usedL_len y1 (M := 16) (fun z hz => (w1.2 z hz).2) (by omega) y2; omega
      have ul3 : (usedL y1 y3).length ≤ 256 := by have := usedL_len y1 (M := 16) (fun z hz => (w1.2 z hz).2) (by omega) y3; omega
      refine callS_ok (av := [.ref b1, .ref b2]) (r := []) X E (c_used h1 g1 g2 (by omega) (by rw [w1.1]; omega) w2.lt (fun z hz hz10 => by rw [w1.1]; rcases w2.2 z hz with q | q <;> omega) (by omega)) lkX10_used mlX10_120 lsX10_used ⟨Nat.le_of_ble_eq_true rfl, Nat.le_of_ble_eq_true rfl⟩ ⟨by show 0 + (1 + y2.length) ≤ 34; omega, by show 0 + ((usedL y1 y2).length + y2.length) ≤ 544; omega⟩ (Nat.le_of_ble_eq_true rfl) (dk rfl) ?_
      rintro v h4 ⟨q, rfl, hq, hBq, XQ, hQ⟩
      refine WS.widen (k' := 17) (n' := 272) (by show 0 + (1 + y2.length) ≤ 17; omega) (by show 0 + ((usedL y1 y2).length + y2.length) ≤ 272; omega) ?_
      have M2 := M1.ext XQ
      repeat refine fst1_ok X (dk rfl) rfl ?_
      refine getf_ok X flX10_16 (dk rfl) M2.obj rfl ?_
      refine fst1_ok X (dk rfl) rfl ?_
      refine lda_ok X (dk rfl) (XQ _ _ a2) e1 (by omega) ?_
      repeat refine fst1_ok X (dk rfl) rfl ?_
      refine getf_ok X flX10_11 (dk rfl) M2.obj rfl ?_
      refine fst1_ok X (dk rfl) rfl ?_
      refine ldr_ok X (dk rfl) (XQ _ _ s2) e3 (by omega) ?_
      refine callS_ok (av := [.ref b1, .ref b3]) (r := [.ref q]) X E (c_used h4 (g1.ext XQ) (XQ _ _ g3) (by omega) (by rw [w1.1]; omega) w3.lt (fun z hz hz10 => by rw [w1.1]; rcases w3.2 z hz with q | q <;> omega) (by omega)) lkX10_used mlX10_120 lsX10_used ⟨Nat.le_of_ble_eq_true rfl, Nat.le_of_ble_eq_true rfl⟩ ⟨by show 17 + (1 + y3.length) ≤ 34; omega, by show 272 + ((usedL y1 y3).length + y3.length) ≤ 544; omega⟩ (Nat.le_of_ble_eq_true rfl) (dk rfl) ?_
      rintro v h5 ⟨q5, rfl, hq5, hBq5, XQ5, hQ5⟩
      refine WS.widen (k' := 34) (n' := 544) (by show 17 + (1 + y3.length) ≤ 34; omega) (by show 272 + ((usedL y1 y3).length + y3.length) ≤ 544; omega) ?_
      have tU2 := TW.used (rows := y1) (fun z hz => (w1.2 z hz).1) (by rw [w1.1]; omega) w2
      have tU3 := TW.used (rows := y1) (fun z hz => (w1.2 z hz).1) (by rw [w1.1]; omega) w3
      refine callS_ok (av := [.ref q, .ref q5]) (r := []) X E (c_same h5 (XQ5 _ _ hQ) hQ5 (by omega) (by omega) tU2.lt tU3.lt) lkX10_same mlX10_54 lsX10_same ⟨Nat.le_of_ble_eq_true rfl, Nat.le_of_ble_eq_true rfl⟩ ⟨Nat.le_of_ble_eq_true rfl, Nat.le_of_ble_eq_true rfl⟩ (Nat.le_of_ble_eq_true rfl) (dk rfl) ?_
      rintro v h6 ⟨rfl, rfl⟩
      rw [ite_bI]
      cases hz : decide (usedL y1 y2 = usedL y1 y3) with
      | false =>
        refine br_ok X (dk rfl) rfl (show ((66 : Nat) : Int) + 7 = ((73 : Nat) : Int) from rfl) (fun _ => ?_) (fun q => absurd bI_f' q)
        refine fst1_ok X (dk rfl) rfl ?_
        exact reti_ok X hr hlk (bI_n false) (dk rfl) ⟨⟨false, rfl⟩, ⟨_, _, _, _, _, (M2.ext XQ5)⟩, F1.trans (Fr.ext (XQ.trans XQ5))⟩ (Nat.le_of_ble_eq_true rfl) (Nat.le_of_ble_eq_true rfl)
      | true =>
        refine br_ok X (dk rfl) rfl (show ((66 : Nat) : Int) + 7 = ((73 : Nat) : Int) from rfl) (fun q => absurd q bI_t) (fun _ => ?_)
        refine fst1_ok X (dk rfl) rfl ?_
        refine br_ok X (dk rfl) rfl (show ((70 : Nat) : Int) + 4 = ((74 : Nat) : Int) from rfl) (fun _ => ?_) (fun q => absurd trivial q)
        exact reti_ok X hr hlk (bI_n true) (dk rfl) ⟨⟨true, rfl⟩, ⟨_, _, _, _, _, (M2.ext XQ5)⟩, F1.trans (Fr.ext (XQ.trans XQ5))⟩ (Nat.le_of_ble_eq_true rfl) (Nat.le_of_ble_eq_true rfl)
  iterate 2 refine fst1_ok X (dk rfl) rfl ?_
  refine isAnswer_ok X E mlX10_135 ⟨Nat.le_of_ble_eq_true rfl, Nat.le_of_ble_eq_true rfl⟩ ⟨Nat.le_of_ble_eq_true rfl, Nat.le_of_ble_eq_true rfl⟩ (Nat.le_of_ble_eq_true rfl) (dk rfl) (fun mid1b0 mid1h0 => ?_)
  cases mid1b0 with
  | false =>
    refine br_ok X (dk rfl) rfl (show ((5 : Nat) : Int) + 17 = ((22 : Nat) : Int) from rfl) (fun _ => ?_) (fun q => absurd bI_f' q)
    refine fst1_ok X (dk rfl) rfl ?_
    refine br_ok X (dk rfl) rfl (show ((23 : Nat) : Int) + 4 = ((27 : Nat) : Int) from rfl) (fun _ => ?_) (fun q => absurd trivial q)
    exact mid1 true (fun z => by cases z)
  | true =>
    refine br_ok X (dk rfl) rfl (show ((5 : Nat) : Int) + 17 = ((22 : Nat) : Int) from rfl) (fun q => absurd q bI_t) (fun _ => ?_)
    iterate 1 refine fst1_ok X (dk rfl) rfl ?_
    refine isSlot_ok X E mlX10_95 ⟨Nat.le_of_ble_eq_true rfl, Nat.le_of_ble_eq_true rfl⟩ ⟨Nat.le_of_ble_eq_true rfl, Nat.le_of_ble_eq_true rfl⟩ (Nat.le_of_ble_eq_true rfl) (dk rfl) (fun mid1b1 mid1h1 => ?_)
    cases mid1b1 with
    | false =>
      refine br_ok X (dk rfl) rfl (show ((12 : Nat) : Int) + 10 = ((22 : Nat) : Int) from rfl) (fun _ => ?_) (fun q => absurd bI_f' q)
      refine fst1_ok X (dk rfl) rfl ?_
      refine br_ok X (dk rfl) rfl (show ((23 : Nat) : Int) + 4 = ((27 : Nat) : Int) from rfl) (fun _ => ?_) (fun q => absurd trivial q)
      exact mid1 true (fun z => by cases z)
    | true =>
      refine br_ok X (dk rfl) rfl (show ((12 : Nat) : Int) + 10 = ((22 : Nat) : Int) from rfl) (fun q => absurd q bI_t) (fun _ => ?_)
      iterate 1 refine fst1_ok X (dk rfl) rfl ?_
      refine isSlot_ok X E mlX10_95 ⟨Nat.le_of_ble_eq_true rfl, Nat.le_of_ble_eq_true rfl⟩ ⟨Nat.le_of_ble_eq_true rfl, Nat.le_of_ble_eq_true rfl⟩ (Nat.le_of_ble_eq_true rfl) (dk rfl) (fun mid1b2 mid1h2 => ?_)
      cases mid1b2 with
      | false =>
        refine br_ok X (dk rfl) rfl (show ((19 : Nat) : Int) + 7 = ((26 : Nat) : Int) from rfl) (fun q => absurd q bI_f) (fun _ => ?_)
        refine fst1_ok X (dk rfl) rfl ?_
        refine br_ok X (dk rfl) rfl (show ((23 : Nat) : Int) + 4 = ((27 : Nat) : Int) from rfl) (fun _ => ?_) (fun q => absurd trivial q)
        exact mid1 true (fun z => by cases z)
      | true =>
        refine br_ok X (dk rfl) rfl (show ((19 : Nat) : Int) + 7 = ((26 : Nat) : Int) from rfl) (fun _ => ?_) (fun q => absurd bI_t q)
        refine fst1_ok X (dk rfl) rfl ?_
        exact mid1 false (fun _ => ⟨mid1h0 rfl, mid1h1 rfl, mid1h2 rfl⟩)
set_option maxHeartbeats 4000000 in
theorem c_isSo (h : AH) (M : MD h o S A sl an a r kn th) (x1 x2 : Int32) : CT la D cA B0 pa yX10_isSo cX10_isSo 9 (some .boolean) (rmD 5 137 2184) [.ref o, .int x1, .int x2] h (booR o S A kn h) := by
  refine CT_of (by decide +kernel) (Nat.le_of_ble_eq_true rfl) ?_
  intro p e s m args below meth c X E hr hlk hnm
  have dk : ∀ {pc : Nat} {q : Instr × Nat}, lkd DX10_isSo pc = some q → decode cX10_isSo pc = .ok q := lkd_ok DX10_isSo_ok
  have mid2 : ∀ t1 t2 : Bool, (t1 = false → inN 3 x1) → (t2 = false → inN 2 x2) → WR p la e (rmD 5 137 2184) s m args below meth c D cA B0 9 (booR o S A kn h) 27 (lv_args 0 [.ref o, .int x1, .int x2]) [.int (bI t2), .int (bI t1), .ref o] h 0 0 := by
    intro t1 t2 ht1 ht2
    refine thr2_ok X E M ⟨Nat.le_of_ble_eq_true rfl, Nat.le_of_ble_eq_true rfl⟩ ⟨Nat.le_of_ble_eq_true rfl, Nat.le_of_ble_eq_true rfl⟩ (Nat.le_of_ble_eq_true rfl) (dk rfl) (fun h1 a1 r1 th1 M1 F1 => ?_)
    cases hb : (t1 || t2) with
    | true =>
      refine br_ok X (dk rfl) rfl (show ((30 : Nat) : Int) + 5 = ((35 : Nat) : Int) from rfl) (fun q => absurd q bI_t) (fun _ => ?_)
      refine fst1_ok X (dk rfl) rfl ?_
      exact reti_ok X hr hlk (bI_n false) (dk rfl) ⟨⟨false, rfl⟩, ⟨_, _, _, _, _, M1⟩, F1⟩ (Nat.zero_le _) (Nat.zero_le _)
    | false =>
      refine br_ok X (dk rfl) rfl (show ((30 : Nat) : Int) + 5 = ((35 : Nat) : Int) from rfl) (fun _ => ?_) (fun q => absurd bI_f' q)
      obtain ⟨hb1, hb2⟩ := Bool.or_eq_false_iff.mp hb
      obtain ⟨j1, hj1, rfl⟩ := ht1 hb1
      obtain ⟨j2, hj2, rfl⟩ := ht2 hb2
      obtain ⟨ss, s1, s2, s3⟩ := M1.slot
      obtain ⟨as, a1, a2, a3⟩ := M1.ans
      obtain ⟨b1, y1, e1, f1, g1, w1, n1⟩ := a3 j1 hj1
      repeat refine fst1_ok X (dk rfl) rfl ?_
      refine getf_ok X flX10_16 (dk rfl) M1.obj rfl ?_
      refine fst1_ok X (dk rfl) rfl ?_
      refine lda_ok X (dk rfl) a2 e1 (by omega) ?_
      have bl : y1.length = 8 := w1.1
      obtain ⟨as1, as2, as3, as4⟩ := g1.row
      iterate 2 refine fst1_ok X (dk rfl) rfl ?_
      refine br_ok X (dk rfl) rfl (show ((43 : Nat) : Int) + 21 = ((64 : Nat) : Int) from rfl) (fun _ => ?_) (fun _ => ?_)
      · have loop : ∀ (d i : Nat), d = 8 - i → i ≤ 8 → ∀ (z : Int32) (l : List (Nat × Value)), lsel l [7, 6, 5, 4] = [(7, vI i), (6, vI 8), (5, .ref b1), (4, .int z)] → WR p la e (rmD 5 137 2184) s m args below meth c D cA B0 9 (booR o S A kn h) 78 l [] h1 0 0 := by
          intro d
          induction d with
          | zero =>
            intro i hd hi z l hl
            have hi2 : i = 8 := by omega
            subst hi2
            refine WS.sel [7, 6, 5, 4] hl ?_
            repeat refine fst1_ok X (dk rfl) rfl ?_
            refine br_ok X (dk rfl) rfl (show ((82 : Nat) : Int) + 40 = ((122 : Nat) : Int) from rfl) (fun _ => ?_) (fun c1 => absurd (Int32.le_refl _) c1)
            repeat refine fst1_ok X (dk rfl) rfl ?_
            refine callS_ok (av := [.int z]) (r := []) X E (c_ones h1 z) lkX10_ones mlX10_128 lsX10_ones ⟨Nat.le_of_ble_eq_true rfl, Nat.le_of_ble_eq_true rfl⟩ ⟨Nat.le_of_ble_eq_true rfl, Nat.le_of_ble_eq_true rfl⟩ (Nat.le_of_ble_eq_true rfl) (dk rfl) ?_
            rintro v h3 ⟨rfl, rfl⟩
            refine fst1_ok X (dk rfl) rfl ?_
            refine br_ok X (dk rfl) rfl (show ((129 : Nat) : Int) + 7 = ((136 : Nat) : Int) from rfl) (fun _ => ?_) (fun _ => ?_)
            · refine fst1_ok X (dk rfl) rfl ?_
              exact reti_ok X hr hlk (bI_n false) (dk rfl) ⟨⟨false, rfl⟩, ⟨_, _, _, _, _, M1⟩, F1⟩ (Nat.le_of_ble_eq_true rfl) (Nat.le_of_ble_eq_true rfl)
            · refine fst1_ok X (dk rfl) rfl ?_
              refine br_ok X (dk rfl) rfl (show ((133 : Nat) : Int) + 4 = ((137 : Nat) : Int) from rfl) (fun _ => ?_) (fun q => absurd trivial q)
              exact reti_ok X hr hlk (bI_n true) (dk rfl) ⟨⟨true, rfl⟩, ⟨_, _, _, _, _, M1⟩, F1⟩ (Nat.le_of_ble_eq_true rfl) (Nat.le_of_ble_eq_true rfl)
          | succ d ih =>
            intro i hd hi z l hl
            obtain ⟨c5, z5, i5, i6, i7⟩ := as4 i (by omega)
            have t5 := w1.2 z5 (List.mem_of_getElem? i6)
            obtain ⟨x, hx⟩ : ∃ x, z5[0]? = some x := ⟨z5[0]'t5.1.pos, by simp⟩
            have f2 : Value.int (nI i + Int32.ofInt 1) = vI (i + 1) := congrArg Value.int (by rw [nI_1', nI_add])
            have go9 : ∀ (w z : Int32) (l : List (Nat × Value)), lsel l [7, 6, 5] = [(7, vI i), (6, vI 8), (5, .ref b1)] → WR p la e (rmD 5 137 2184) s m args below meth c D cA B0 9 (booR o S A kn h) 113 l [.int w, .int z] h1 0 0 := by
              intro w z l hl
              refine WS.sel [7, 6, 5] hl ?_
              repeat refine fst1_ok X (dk rfl) rfl ?_
              refine br_ok X (dk rfl) rfl (show ((119 : Nat) : Int) + (-41) = ((78 : Nat) : Int) from rfl) (fun _ => ?_) (fun q => absurd trivial q)
              refine WS.sel (l' := [(7, vI (i + 1)), (6, vI 8), (5, .ref b1), (4, .int (z ||| w))]) [7, 6, 5, 4] (by rw [← f2]; rfl) ?_
              exact ih (i + 1) (by omega) (by omega) _ _ rfl
            refine WS.sel [7, 6, 5, 4] hl ?_
            repeat refine fst1_ok X (dk rfl) rfl ?_
            refine br_ok X (dk rfl) rfl (show ((82 : Nat) : Int) + 40 = ((122 : Nat) : Int) from rfl) (fun c1 => absurd c1 (nI_ge (a := i) (b := 8) (by omega) (by omega))) (fun _ => ?_)
            repeat refine fst1_ok X (dk rfl) rfl ?_
            refine ldr_ok X (dk rfl) as3 i5 (by omega) ?_
            repeat refine fst1_ok X (dk rfl) rfl ?_
            refine ald_ok X (Or.inl ⟨rfl, rfl⟩) (dk rfl) i7 (inA_nI (j := 0) (by omega) (IA_get hx)) ?_
            refine fst1_ok X (dk rfl) rfl ?_
            refine br_ok X (dk rfl) rfl (show ((100 : Nat) : Int) + 12 = ((112 : Nat) : Int) from rfl) (fun _ => ?_) (fun _ => ?_)
            · refine fst1_ok X (dk rfl) rfl ?_
              exact go9 _ _ _ rfl
            · repeat refine fst1_ok X (dk rfl) rfl ?_
              refine ald_ok X (Or.inl ⟨rfl, rfl⟩) (dk rfl) i7 (inA_nI (j := 0) (by omega) (IA_get hx)) ?_
              refine fst1_ok X (dk rfl) rfl ?_
              refine br_ok X (dk rfl) rfl (show ((109 : Nat) : Int) + 4 = ((113 : Nat) : Int) from rfl) (fun _ => ?_) (fun q => absurd trivial q)
              exact go9 _ _ _ rfl
        iterate 5 refine fst1_ok X (dk rfl) rfl ?_
        refine alen_ok X (by decide) (dk rfl) as3 ?_
        rw [show (as1.map Value.ref).length = 8 by rw [List.length_map]; omega]
        iterate 3 refine fst1_ok X (dk rfl) rfl ?_
        exact loop 8 0 rfl (Nat.zero_le _) _ _ rfl
      · repeat refine fst1_ok X (dk rfl) rfl ?_
        refine callS_ok (av := [.ref b1, .ref b1]) (r := []) X E (c_withBehind h1 g1 g1 w1 w1) lkX10_withBehind mlX10_149 lsX10_withBehind ⟨Nat.le_of_ble_eq_true rfl, Nat.le_of_ble_eq_true rfl⟩ ⟨Nat.le_of_ble_eq_true rfl, Nat.le_of_ble_eq_true rfl⟩ (Nat.le_of_ble_eq_true rfl) (dk rfl) ?_
        rintro v h2 ⟨N, rfl, hN, hBN, XN, nN⟩
        have oN : AW (y1.map (usedL y1)) := by
          refine ⟨by rw [List.length_map]; exact w1.1, fun z hz => ?_⟩
          obtain ⟨t, ht, rfl⟩ := List.mem_map.mp hz
          have h5 := w1.2 t ht
          refine ⟨TW.used (fun z hz => (w1.2 z hz).1) (by rw [w1.1]; omega) h5.1, ?_⟩
          have := usedL_len y1 (M := 16) (fun z hz => (w1.2 z hz).2) (by omega) t
          omega
        repeat refine fst1_ok X (dk rfl) rfl ?_
        refine callS_ok (av := [.ref N, .ref b1]) (r := []) X E (c_unlikeOf h2 nN (g1.ext XN) oN w1.aw) lkX10_unlikeOf mlX10_214 lsX10_unlikeOf ⟨Nat.le_of_ble_eq_true rfl, Nat.le_of_ble_eq_true rfl⟩ ⟨Nat.le_of_ble_eq_true rfl, Nat.le_of_ble_eq_true rfl⟩ (Nat.le_of_ble_eq_true rfl) (dk rfl) ?_
        rintro v h3 ⟨⟨u, rfl, -, -⟩, rfl⟩
        have fin9 : ∀ (x : Int32) (l : List (Nat × Value)), WR p la e (rmD 5 137 2184) s m args below meth c D cA B0 9 (booR o S A kn h) 55 l [.int x] h3 137 2184 := by
          intro x l
          refine br_ok X (dk rfl) rfl (show ((55 : Nat) : Int) + 7 = ((62 : Nat) : Int) from rfl) (fun _ => ?_) (fun _ => ?_)
          · refine fst1_ok X (dk rfl) rfl ?_
            exact reti_ok X hr hlk (bI_n false) (dk rfl) ⟨⟨false, rfl⟩, ⟨_, _, _, _, _, (M1.ext XN)⟩, F1.trans (Fr.ext XN)⟩ (Nat.le_of_ble_eq_true rfl) (Nat.le_of_ble_eq_true rfl)
          · refine fst1_ok X (dk rfl) rfl ?_
            refine br_ok X (dk rfl) rfl (show ((59 : Nat) : Int) + 4 = ((63 : Nat) : Int) from rfl) (fun _ => ?_) (fun q => absurd trivial q)
            exact reti_ok X hr hlk (bI_n true) (dk rfl) ⟨⟨true, rfl⟩, ⟨_, _, _, _, _, (M1.ext XN)⟩, F1.trans (Fr.ext XN)⟩ (Nat.le_of_ble_eq_true rfl) (Nat.le_of_ble_eq_true rfl)
        cases u with
        | none => exact fin9 _ _
        | some u => exact fin9 _ _
  have mid1 : ∀ t1 : Bool, (t1 = false → inN 3 x1) → WR p la e (rmD 5 137 2184) s m args below meth c D cA B0 9 (booR o S A kn h) 13 (lv_args 0 [.ref o, .int x1, .int x2]) [.int (bI t1), .ref o] h 0 0 := by
    intro t1 ht1
    have mid2 := fun t2 => mid2 t1 t2 ht1
    iterate 1 refine fst1_ok X (dk rfl) rfl ?_
    have mid2T : ∀ l : List (Nat × Value), l = (lv_args 0 [.ref o, .int x1, .int x2]) → WR p la e (rmD 5 137 2184) s m args below meth c D cA B0 9 (booR o S A kn h) 22 l [.int (bI t1), .ref o] h 0 0 := by
      intro l hl
      rw [hl]
      refine fst1_ok X (dk rfl) rfl ?_
      refine br_ok X (dk rfl) rfl (show ((23 : Nat) : Int) + 4 = ((27 : Nat) : Int) from rfl) (fun _ => ?_) (fun q => absurd trivial q)
      exact mid2 true (fun z => by cases z)
    refine br_ok X (dk rfl) rfl (show ((14 : Nat) : Int) + 8 = ((22 : Nat) : Int) from rfl) (fun _ => mid2T _ rfl) (fun c1 => ?_)
    iterate 2 refine fst1_ok X (dk rfl) rfl ?_
    refine br_ok X (dk rfl) rfl (show ((19 : Nat) : Int) + 7 = ((26 : Nat) : Int) from rfl) (fun c2 => ?_) (fun _ => mid2T _ rfl)
    refine fst1_ok X (dk rfl) rfl ?_
    exact mid2 false (fun _ => inN_le (K := 1) (by omega) c1 (by rw [show nI 1 = Int32.ofInt 1 by decide +kernel]; exact c2))
  iterate 2 refine fst1_ok X (dk rfl) rfl ?_
  refine isAnswer_ok X E mlX10_135 ⟨Nat.le_of_ble_eq_true rfl, Nat.le_of_ble_eq_true rfl⟩ ⟨Nat.le_of_ble_eq_true rfl, Nat.le_of_ble_eq_true rfl⟩ (Nat.le_of_ble_eq_true rfl) (dk rfl) (fun mid1b0 mid1h0 => ?_)
  cases mid1b0 with
  | false =>
    refine br_ok X (dk rfl) rfl (show ((5 : Nat) : Int) + 7 = ((12 : Nat) : Int) from rfl) (fun q => absurd q bI_f) (fun _ => ?_)
    refine fst1_ok X (dk rfl) rfl ?_
    refine br_ok X (dk rfl) rfl (show ((9 : Nat) : Int) + 4 = ((13 : Nat) : Int) from rfl) (fun _ => ?_) (fun q => absurd trivial q)
    exact mid1 true (fun z => by cases z)
  | true =>
    refine br_ok X (dk rfl) rfl (show ((5 : Nat) : Int) + 7 = ((12 : Nat) : Int) from rfl) (fun _ => ?_) (fun q => absurd bI_t q)
    refine fst1_ok X (dk rfl) rfl ?_
    exact mid1 false (fun _ => mid1h0 rfl)
set_option maxHeartbeats 4000000 in
theorem c_told_ (h : AH) (M : MD h o S A sl an a r kn th) (x1 : Int32) : CT la D cA B0 pa yX10_told_ cX10_told_ 7 (some .int) (rmD 4 24 24) [.ref o, .int x1] h (intR o S A kn h) := by
  refine CT_of (by decide +kernel) (Nat.le_of_ble_eq_true rfl) ?_
  intro p e s m args below meth c X E hr hlk hnm
  have dk : ∀ {pc : Nat} {q : Instr × Nat}, lkd DX10_told_ pc = some q → decode cX10_told_ pc = .ok q := lkd_ok DX10_told__ok
  obtain ⟨ss, s1, s2, s3⟩ := M.slot
  obtain ⟨as, a1, a2, a3⟩ := M.ans
  have loopS : ∀ (d i : Nat), d = 6 - i → i ≤ 6 → ∀ (z : Int32) (l : List (Nat × Value)), lsel l [5, 4, 3, 2] = [(5, vI i), (4, vI 6), (3, .ref S), (2, .int z)] → WR p la e (rmD 4 24 24) s m args below meth c D cA B0 7 (intR o S A kn h) 19 l [] h 0 0 := by
    intro d
    induction d with
    | zero =>
      intro i hd hi z l hl
      have hi2 : i = 6 := by omega
      subst hi2
      refine WS.sel [5, 4, 3, 2] hl ?_
      repeat refine fst1_ok X (dk rfl) rfl ?_
      refine br_ok X (dk rfl) rfl (show ((23 : Nat) : Int) + 21 = ((44 : Nat) : Int) from rfl) (fun _ => ?_) (fun c1 => absurd (Int32.le_refl _) c1)
      refine br_ok X (dk rfl) rfl (show ((44 : Nat) : Int) + 45 = ((89 : Nat) : Int) from rfl) (fun _ => ?_) (fun q => absurd trivial q)
      repeat refine fst1_ok X (dk rfl) rfl ?_
      exact reti_ok X hr hlk rfl (dk rfl) ⟨⟨_, rfl⟩, M.mi⟩ (Nat.zero_le _) (Nat.zero_le _)
    | succ d ih =>
      intro i hd hi z l hl
      obtain ⟨b, x, e1, e2, e3, e4, e5⟩ := s3 i (by omega)
      have f2 : Value.int (nI i + Int32.ofInt 1) = vI (i + 1) := congrArg Value.int (by rw [nI_1', nI_add])
      refine WS.sel [5, 4, 3, 2] hl ?_
      repeat refine fst1_ok X (dk rfl) rfl ?_
      refine br_ok X (dk rfl) rfl (show ((23 : Nat) : Int) + 21 = ((44 : Nat) : Int) from rfl) (fun c1 => absurd c1 (nI_ge (a := i) (b := 6) (by omega) (by omega))) (fun _ => ?_)
      repeat refine fst1_ok X (dk rfl) rfl ?_
      refine ldr_ok X (dk rfl) s2 e1 (by omega) ?_
      repeat refine fst1_ok X (dk rfl) rfl ?_
      refine alen_ok X (by decide) (dk rfl) e3 ?_
      generalize nI (x.map vI).length = w
      repeat refine fst1_ok X (dk rfl) rfl ?_
      refine br_ok X (dk rfl) rfl (show ((41 : Nat) : Int) + (-22) = ((19 : Nat) : Int) from rfl) (fun _ => ?_) (fun q => absurd trivial q)
      refine WS.sel (l' := [(5, vI (i + 1)), (4, vI 6), (3, .ref S), (2, .int (z + w))]) [5, 4, 3, 2] (by rw [← f2]; rfl) ?_
      exact ih (i + 1) (by omega) (by omega) _ _ rfl
  have loopA : ∀ (d i : Nat), d = 3 - i → i ≤ 3 → ∀ (z : Int32) (hh : AH) (l : List (Nat × Value)), lsel l [5, 4, 3, 2] = [(5, vI i), (4, vI 3), (3, .ref A), (2, .int z)] → Ext h hh → WR p la e (rmD 4 24 24) s m args below meth c D cA B0 7 (intR o S A kn h) 59 l [] hh (8 * i) (8 * i) := by
    intro d
    induction d with
    | zero =>
      intro i hd hi z hh l hl XX
      have hi2 : i = 3 := by omega
      subst hi2
      refine WS.sel [5, 4, 3, 2] hl ?_
      repeat refine fst1_ok X (dk rfl) rfl ?_
      refine br_ok X (dk rfl) rfl (show ((63 : Nat) : Int) + 26 = ((89 : Nat) : Int) from rfl) (fun _ => ?_) (fun c1 => absurd (Int32.le_refl _) c1)
      repeat refine fst1_ok X (dk rfl) rfl ?_
      exact reti_ok X hr hlk rfl (dk rfl) ⟨⟨_, rfl⟩, ⟨_, _, _, _, _, M.ext XX⟩, Fr.ext XX⟩ (Nat.le_of_ble_eq_true rfl) (Nat.le_of_ble_eq_true rfl)
    | succ d ih =>
      intro i hd hi z hh l hl XX
      obtain ⟨b, x, e1, e2, e3, e4, e5⟩ := a3 i (by omega)
      have f2 : Value.int (nI i + Int32.ofInt 1) = vI (i + 1) := congrArg Value.int (by rw [nI_1', nI_add])
      refine WS.sel [5, 4, 3, 2] hl ?_
      repeat refine fst1_ok X (dk rfl) rfl ?_
      refine br_ok X (dk rfl) rfl (show ((63 : Nat) : Int) + 26 = ((89 : Nat) : Int) from rfl) (fun c1 => absurd c1 (nI_ge (a := i) (b := 3) (by omega) (by omega))) (fun _ => ?_)
      repeat refine fst1_ok X (dk rfl) rfl ?_
      refine lda_ok X (dk rfl) (XX _ _ a2) e1 (by omega) ?_
      repeat refine fst1_ok X (dk rfl) rfl ?_
      refine callS_ok (av := [.ref b]) (r := [.int z]) X E (c_movedBy hh (e3.ext XX) e4) lkX10_movedBy mlX10_141 lsX10_movedBy ⟨Nat.le_of_ble_eq_true rfl, Nat.le_of_ble_eq_true rfl⟩ ⟨by show 8 * i + 8 ≤ 24; omega, by show 8 * i + 8 ≤ 24; omega⟩ (Nat.le_of_ble_eq_true rfl) (dk rfl) ?_
      rintro v h2 ⟨rfl, E2⟩
      refine callS_ok (av := [vI (movedN x 8)]) (r := [.int z]) X E (c_ones h2 (nI (movedN x 8))) lkX10_ones mlX10_128 lsX10_ones ⟨Nat.le_of_ble_eq_true rfl, Nat.le_of_ble_eq_true rfl⟩ ⟨by show 8 * i + 8 ≤ 24; omega, by show 8 * i + 8 ≤ 24; omega⟩ (Nat.le_of_ble_eq_true rfl) (dk rfl) ?_
      rintro v h3 ⟨rfl, rfl⟩
      generalize bcF (nI (movedN x 8)) = w
      repeat refine fst1_ok X (dk rfl) rfl ?_
      refine br_ok X (dk rfl) rfl (show ((86 : Nat) : Int) + (-27) = ((59 : Nat) : Int) from rfl) (fun _ => ?_) (fun q => absurd trivial q)
      refine WS.sel (l' := [(5, vI (i + 1)), (4, vI 3), (3, .ref A), (2, .int (z + w))]) [5, 4, 3, 2] (by rw [← f2]; rfl) ?_
      refine WS.widen (k' := 8 * (i + 1)) (n' := 8 * (i + 1)) (by show 8 * i + 8 ≤ 8 * (i + 1); omega) (by show 8 * i + 8 ≤ 8 * (i + 1); omega) ?_
      exact ih (i + 1) (by omega) (by omega) _ _ _ rfl (XX.trans E2)
  repeat refine fst1_ok X (dk rfl) rfl ?_
  refine br_ok X (dk rfl) rfl (show ((4 : Nat) : Int) + 43 = ((47 : Nat) : Int) from rfl) (fun _ => ?_) (fun _ => ?_)
  · repeat refine fst1_ok X (dk rfl) rfl ?_
    refine getf_ok X flX10_16 (dk rfl) M.obj rfl ?_
    iterate 2 refine fst1_ok X (dk rfl) rfl ?_
    refine alen_ok X (by decide) (dk rfl) a2 ?_
    rw [show (as.map Value.ref).length = 3 by rw [List.length_map]; omega]
    iterate 3 refine fst1_ok X (dk rfl) rfl ?_
    exact loopA 3 0 rfl (Nat.zero_le _) _ _ _ rfl (Ext.rf h)
  · repeat refine fst1_ok X (dk rfl) rfl ?_
    refine getf_ok X flX10_11 (dk rfl) M.obj rfl ?_
    iterate 2 refine fst1_ok X (dk rfl) rfl ?_
    refine alen_ok X (by decide) (dk rfl) s2 ?_
    rw [show (ss.map Value.ref).length = 6 by rw [List.length_map]; omega]
    iterate 3 refine fst1_ok X (dk rfl) rfl ?_
    exact loopS 6 0 rfl (Nat.zero_le _) _ _ rfl
theorem c_knock (h : AH) (M : MD h o S A sl an a r kn th) : CT la D cA B0 pa yX10_knock cX10_knock 1 (some .int) (rmD 0 0 0) [.ref o] h (fun v h' => v = some (.int (kn + Int32.ofInt 1)) ∧ MI o S A (kn + Int32.ofInt 1) h h') := by
  refine CT_of (by decide +kernel) (Nat.le_of_ble_eq_true rfl) ?_
  intro p e s m args below meth c X E hr hlk hnm
  have dk : ∀ {pc : Nat} {q : Instr × Nat}, lkd DX10_knock pc = some q → decode cX10_knock pc = .ok q := lkd_ok DX10_knock_ok
  repeat refine fst1_ok X (dk rfl) rfl ?_
  refine putf_ok X flX10_28 ftX10_5 (Or.inl rfl) rfl rfl (dk rfl) M.obj (Nat.le_of_ble_eq_true rfl) ?_
  have M1 := M.fld a r kn (Int32.ofInt 0)
  repeat refine fst1_ok X (dk rfl) rfl ?_
  refine getf_ok X flX10_218 (dk rfl) M1.obj rfl ?_
  repeat refine fst1_ok X (dk rfl) rfl ?_
  refine putf_ok X flX10_218 ftX10_4 (Or.inl rfl) rfl rfl (dk rfl) M1.obj (Nat.le_of_ble_eq_true rfl) ?_
  have M2 := M1.fld a r (kn + Int32.ofInt 1) (Int32.ofInt 0)
  repeat refine fst1_ok X (dk rfl) rfl ?_
  refine getf_ok X flX10_218 (dk rfl) M2.obj rfl ?_
  exact reti_ok X hr hlk rfl (dk rfl) ⟨rfl, ⟨_, _, _, _, _, M2⟩, ((Fr.rf h).set (Or.inl rfl) _).set (Or.inl rfl) _⟩ (Nat.le_refl _) (Nat.le_refl _)
theorem c_isSound (h : AH) (M : MD h o S A sl an a r kn th) : CT la D cA B0 pa yX10_isSound cX10_isSound 1 (some .boolean) (rmD 0 0 0) [.ref o] h (booR o S A kn h) := by
  refine CT_of (by decide +kernel) (Nat.le_of_ble_eq_true rfl) ?_
  intro p e s m args below meth c X E hr hlk hnm
  have dk : ∀ {pc : Nat} {q : Instr × Nat}, lkd DX10_isSound pc = some q → decode cX10_isSound pc = .ok q := lkd_ok DX10_isSound_ok
  repeat refine fst1_ok X (dk rfl) rfl ?_
  refine putf_ok X flX10_28 ftX10_5 (Or.inl rfl) rfl rfl (dk rfl) M.obj (Nat.le_of_ble_eq_true rfl) ?_
  repeat refine fst1_ok X (dk rfl) rfl ?_
  exact reti_ok X hr hlk (bI_n true) (dk rfl) ⟨⟨true, rfl⟩, ⟨_, _, _, _, _, M.fld a r kn (Int32.ofInt 0)⟩, (Fr.rf h).set (Or.inl rfl) _⟩ (Nat.le_refl _) (Nat.le_refl _)
theorem c_add (h : AH) (d v : Int64) : CT la D cA B0 pa yX10_add cX10_add 4 (some .long) (rmD 0 0 0) [.long d, .long v] h (fun w h' => w = some (.long (d * 31 + v)) ∧ h' = h) := by
  refine CT_of (by decide +kernel) (Nat.le_of_ble_eq_true rfl) ?_
  intro p e s m args below meth c X E hr hlk hnm
  have dk : ∀ {pc : Nat} {q : Instr × Nat}, lkd DX10_add pc = some q → decode cX10_add pc = .ok q := lkd_ok DX10_add_ok
  repeat refine fst1_ok X (dk rfl) rfl ?_
  refine ldc2_ok X cs10_224 (dk rfl) ?_
  repeat refine fst1_ok X (dk rfl) rfl ?_
  exact retl_ok X hr hlk (dk rfl) ⟨rfl, rfl⟩ (Nat.le_refl _) (Nat.le_refl _)
set_option maxHeartbeats 4000000 in
theorem c_added (h : AH) (d0 : Int64) {q : Nat} {x : List Nat} (hq : h q = some (IA x)) (hn : x.length < 2 ^ 9) : CT la D cA B0 pa yX10_added cX10_added 9 (some .long) (rmD 1 0 0) [.long d0, .ref q] h (fun w h' => (∃ z : Int64, w = some (.long z)) ∧ h' = h) := by
  refine CT_of (by decide +kernel) (Nat.le_of_ble_eq_true rfl) ?_
  intro p e s m args below meth c X E hr hlk hnm
  have dk : ∀ {pc : Nat} {q : Instr × Nat}, lkd DX10_added pc = some q → decode cX10_added pc = .ok q := lkd_ok DX10_added_ok
  have lx : (x.map vI).length = x.length := List.length_map _
  have loop : ∀ (d i : Nat), d = x.length - i → i ≤ x.length → ∀ (z : Int64) (l : List (Nat × Value)), lsel l [7, 6, 5, 3] = [(7, vI i), (6, vI x.length), (5, .ref q), (3, .long z)] → WR p la e (rmD 1 0 0) s m args below meth c D cA B0 9 (fun w h' => (∃ z : Int64, w = some (.long z)) ∧ h' = h) 13 l [] h 0 0 := by
    intro d
    induction d with
    | zero =>
      intro i hd hi z l hl
      have hi2 : i = x.length := by omega
      subst hi2
      refine WS.sel [7, 6, 5, 3] hl ?_
      repeat refine fst1_ok X (dk rfl) rfl ?_
      refine br_ok X (dk rfl) rfl (show ((17 : Nat) : Int) + 24 = ((41 : Nat) : Int) from rfl) (fun _ => ?_) (fun c1 => absurd (Int32.le_refl _) c1)
      repeat refine fst1_ok X (dk rfl) rfl ?_
      exact retl_ok X hr hlk (dk rfl) ⟨⟨_, rfl⟩, rfl⟩ (Nat.le_refl _) (Nat.le_refl _)
    | succ d ih =>
      intro i hd hi z l hl
      obtain ⟨y, hy⟩ : ∃ y, x[i]? = some y := ⟨x[i]'(by omega), by simp⟩
      have f2 : Value.int (nI i + Int32.ofInt 1) = vI (i + 1) := congrArg Value.int (by rw [nI_1', nI_add])
      refine WS.sel [7, 6, 5, 3] hl ?_
      repeat refine fst1_ok X (dk rfl) rfl ?_
      refine br_ok X (dk rfl) rfl (show ((17 : Nat) : Int) + 24 = ((41 : Nat) : Int) from rfl) (fun c1 => absurd c1 (nI_ge (by omega) (by omega))) (fun _ => ?_)
      repeat refine fst1_ok X (dk rfl) rfl ?_
      refine ald_ok X (Or.inl ⟨rfl, rfl⟩) (dk rfl) hq (inA_nI (by omega) (IA_get hy)) ?_
      repeat refine fst1_ok X (dk rfl) rfl ?_
      refine callS_ok (av := [.long z, .long (nI y).toInt64]) (r := []) X E (c_add h z (nI y).toInt64) lkX10_add mlX10_226 lsX10_add ⟨Nat.le_of_ble_eq_true rfl, Nat.le_of_ble_eq_true rfl⟩ ⟨Nat.le_of_ble_eq_true rfl, Nat.le_of_ble_eq_true rfl⟩ (Nat.le_of_ble_eq_true rfl) (dk rfl) ?_
      rintro v h' ⟨rfl, rfl⟩
      generalize z * 31 + (nI y).toInt64 = w
      repeat refine fst1_ok X (dk rfl) rfl ?_
      refine br_ok X (dk rfl) rfl (show ((38 : Nat) : Int) + (-25) = ((13 : Nat) : Int) from rfl) (fun _ => ?_) (fun q => absurd trivial q)
      refine WS.sel (l' := [(7, vI (i + 1)), (6, vI x.length), (5, .ref q), (3, .long w)]) [7, 6, 5, 3] (by rw [← f2]; rfl) ?_
      exact ih (i + 1) (by omega) (by omega) _ _ rfl
  iterate 5 refine fst1_ok X (dk rfl) rfl ?_
  refine alen_ok X (by decide) (dk rfl) hq ?_
  rw [lx]
  iterate 3 refine fst1_ok X (dk rfl) rfl ?_
  exact loop _ 0 rfl (Nat.zero_le _) _ _ rfl
set_option maxHeartbeats 4000000 in
theorem c_house (h : AH) (M : MD h o S A sl an a r kn th) (x1 : Int32) : CT la D cA B0 pa yX10_house cX10_house 2 (some .int) (rmD 5 24 24) [.ref o, .int x1] h (intR o S A kn h) := by
  refine CT_of (by decide +kernel) (Nat.le_of_ble_eq_true rfl) ?_
  intro p e s m args below meth c X E hr hlk hnm
  have dk : ∀ {pc : Nat} {q : Instr × Nat}, lkd DX10_house pc = some q → decode cX10_house pc = .ok q := lkd_ok DX10_house_ok
  have mid1 : ∀ t1 : Bool, (t1 = false → inN 5 x1) → WR p la e (rmD 5 24 24) s m args below meth c D cA B0 2 (intR o S A kn h) 15 (lv_args 0 [.ref o, .int x1]) [.int (bI t1), .ref o] h 0 0 := by
    intro t1 ht1
    refine thr1_ok X E M ⟨Nat.le_of_ble_eq_true rfl, Nat.le_of_ble_eq_true rfl⟩ ⟨Nat.le_of_ble_eq_true rfl, Nat.le_of_ble_eq_true rfl⟩ (Nat.le_of_ble_eq_true rfl) (dk rfl) (fun h1 a1 r1 th1 M1 F1 => ?_)
    cases hb : t1 with
    | true =>
      refine br_ok X (dk rfl) rfl (show ((18 : Nat) : Int) + 7 = ((25 : Nat) : Int) from rfl) (fun q => absurd q bI_t) (fun _ => ?_)
      refine fst1_ok X (dk rfl) rfl ?_
      refine br_ok X (dk rfl) rfl (show ((22 : Nat) : Int) + 43 = ((65 : Nat) : Int) from rfl) (fun _ => ?_) (fun q => absurd trivial q)
      exact reti_ok X hr hlk rfl (dk rfl) ⟨⟨_, rfl⟩, ⟨_, _, _, _, _, M1⟩, F1⟩ (Nat.zero_le _) (Nat.zero_le _)
    | false =>
      refine br_ok X (dk rfl) rfl (show ((18 : Nat) : Int) + 7 = ((25 : Nat) : Int) from rfl) (fun _ => ?_) (fun q => absurd bI_f' q)
      obtain ⟨j1, hj1, rfl⟩ := ht1 hb
      obtain ⟨ss, s1, s2, s3⟩ := M1.slot
      obtain ⟨as, a1, a2, a3⟩ := M1.ans
      refine fst1_ok X (dk rfl) rfl ?_
      refine br_ok X (dk rfl) rfl (show ((26 : Nat) : Int) + 10 = ((36 : Nat) : Int) from rfl) (fun _ => ?_) (fun _ => ?_)
      · repeat refine fst1_ok X (dk rfl) rfl ?_
        refine br_ok X (dk rfl) rfl (show ((38 : Nat) : Int) + 10 = ((48 : Nat) : Int) from rfl) (fun _ => ?_) (fun _ => ?_)
        · repeat refine fst1_ok X (dk rfl) rfl ?_
          refine br_ok X (dk rfl) rfl (show ((50 : Nat) : Int) + 10 = ((60 : Nat) : Int) from rfl) (fun _ => ?_) (fun _ => ?_)
          · repeat refine fst1_ok X (dk rfl) rfl ?_
            refine callV_ok (ci := 12) (T := TX10) (N := 6) (av := [vI j1]) (r := []) X E (c_told_ h1 M1 (nI j1)) lkX10_told_ mlX10_221 lmX10_told_ lpX10_told_ ⟨Nat.le_of_ble_eq_true rfl, Nat.le_of_ble_eq_true rfl⟩ ⟨Nat.le_of_ble_eq_true rfl, Nat.le_of_ble_eq_true rfl⟩ rfl M1.obj (Nat.le_of_ble_eq_true rfl) (dk rfl) ?_
            rintro v h2 ⟨⟨w9, rfl⟩, I9⟩
            exact reti_ok X hr hlk rfl (dk rfl) ⟨⟨_, rfl⟩, MI.trans F1 I9⟩ (Nat.le_of_ble_eq_true rfl) (Nat.le_of_ble_eq_true rfl)
          · refine fst1_ok X (dk rfl) rfl ?_
            refine getf_ok X flX10_218 (dk rfl) M1.obj rfl ?_
            refine br_ok X (dk rfl) rfl (show ((57 : Nat) : Int) + 8 = ((65 : Nat) : Int) from rfl) (fun _ => ?_) (fun q => absurd trivial q)
            exact reti_ok X hr hlk rfl (dk rfl) ⟨⟨_, rfl⟩, ⟨_, _, _, _, _, M1⟩, F1⟩ (Nat.le_of_ble_eq_true rfl) (Nat.le_of_ble_eq_true rfl)
        · refine fst1_ok X (dk rfl) rfl ?_
          refine getf_ok X flX10_85 (dk rfl) M1.obj rfl ?_
          refine br_ok X (dk rfl) rfl (show ((45 : Nat) : Int) + 20 = ((65 : Nat) : Int) from rfl) (fun _ => ?_) (fun q => absurd trivial q)
          exact reti_ok X hr hlk rfl (dk rfl) ⟨⟨_, rfl⟩, ⟨_, _, _, _, _, M1⟩, F1⟩ (Nat.le_of_ble_eq_true rfl) (Nat.le_of_ble_eq_true rfl)
      · refine fst1_ok X (dk rfl) rfl ?_
        refine getf_ok X flX10_82 (dk rfl) M1.obj rfl ?_
        refine br_ok X (dk rfl) rfl (show ((33 : Nat) : Int) + 32 = ((65 : Nat) : Int) from rfl) (fun _ => ?_) (fun q => absurd trivial q)
        exact reti_ok X hr hlk rfl (dk rfl) ⟨⟨_, rfl⟩, ⟨_, _, _, _, _, M1⟩, F1⟩ (Nat.le_of_ble_eq_true rfl) (Nat.le_of_ble_eq_true rfl)
  iterate 2 refine fst1_ok X (dk rfl) rfl ?_
  have mid1T : ∀ l : List (Nat × Value), l = (lv_args 0 [.ref o, .int x1]) → WR p la e (rmD 5 24 24) s m args below meth c D cA B0 2 (intR o S A kn h) 10 l [.ref o] h 0 0 := by
    intro l hl
    rw [hl]
    refine fst1_ok X (dk rfl) rfl ?_
    refine br_ok X (dk rfl) rfl (show ((11 : Nat) : Int) + 4 = ((15 : Nat) : Int) from rfl) (fun _ => ?_) (fun q => absurd trivial q)
    exact mid1 true (fun z => by cases z)
  refine br_ok X (dk rfl) rfl (show ((2 : Nat) : Int) + 8 = ((10 : Nat) : Int) from rfl) (fun _ => mid1T _ rfl) (fun c1 => ?_)
  iterate 2 refine fst1_ok X (dk rfl) rfl ?_
  refine br_ok X (dk rfl) rfl (show ((7 : Nat) : Int) + 7 = ((14 : Nat) : Int) from rfl) (fun c2 => ?_) (fun _ => mid1T _ rfl)
  refine fst1_ok X (dk rfl) rfl ?_
  exact mid1 false (fun _ => inN_le (K := 4) (by omega) c1 (by rw [show nI 4 = Int32.ofInt 4 by decide +kernel]; exact c2))
end M39
