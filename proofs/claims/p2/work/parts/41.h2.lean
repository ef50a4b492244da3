/-! graft, put -/
theorem AnsPut {h : AH} {N : Nat} {rows : List (List Nat)} (H : Ans h N rows) {k q n : Nat} {x : List Nat} (hk : k < n) (hq : h q = some (IA x)) (hn : rows.length = n) : ∃ vs, h N = some (105, vs) ∧ vs.length = n ∧ Ans (hup h N (105, vs.set k (.ref q))) N (rows.set k x) := by
  obtain ⟨as, h1, h2, h3⟩ := H
  refine ⟨_, h2, by rw [List.length_map]; omega, as.set k q, by simp [h1], by rw [hup_self, List.map_set], fun i b y e1 e2 => ?_⟩
  by_cases hi : i = k
  · subst hi
    rw [List.getElem?_set_self (by omega)] at e1 e2
    cases e1
    cases e2
    rw [hup_ne _ _ (IA_ne hq h2)]
    exact hq
  · rw [List.getElem?_set_ne (Ne.symm hi)] at e1 e2
    have h4 := h3 i b y e1 e2
    rw [hup_ne _ _ (IA_ne h4 h2)]
    exact h4
theorem AO.set {rows : List (List Nat)} (H : AO rows) {k : Nat} {x : List Nat} (hx : TW x ∧ x.length ≤ 16) : AO (rows.set k x) := by
  refine ⟨by rw [List.length_set]; exact H.1, fun z hz => ?_⟩
  rcases List.mem_or_eq_of_mem_set hz with q | q
  · exact H.2 z q
  · rw [q]; exact hx
theorem AO_none : AO [[0], [1], [2], [3], [4], [5], [6], [7]] := by
  refine ⟨rfl, fun z hz => ?_⟩
  simp only [List.mem_cons, List.not_mem_nil, or_false] at hz
  rcases hz with rfl | rfl | rfl | rfl | rfl | rfl | rfl | rfl <;> exact ⟨TW.name (by omega), by decide⟩
section M39
variable {la : Launch} {D : va_G} {cA : Nat → ClassId} {B0 pa : Nat} {o S A : Nat} {sl : List (List Nat)} {an : List (List (List Nat))} {a r kn th : Int32}
set_option maxHeartbeats 4000000 in
theorem c_graft (h : AH) (M : MD h o S A sl an a r kn th) (x1 x2 x3 : Int32) : CT la D cA B0 pa yX10_graft cX10_graft 5 (some .int) (rmD 3 4 128) [.ref o, .int x1, .int x2, .int x3] h (intR o S A kn h) := by
  refine CT_of (by decide +kernel) (Nat.le_of_ble_eq_true rfl) ?_
  intro p e s m args below meth c X E hr hlk hnm
  have dk : ∀ {pc : Nat} {q : Instr × Nat}, lkd DX10_graft pc = some q → decode cX10_graft pc = .ok q := lkd_ok DX10_graft_ok
  have mid1 : ∀ t1 : Bool, (t1 = false → inN 6 x1 ∧ inN 6 x3) → WR p la e (rmD 3 4 128) s m args below meth c D cA B0 5 (intR o S A kn h) 20 (lv_args 0 [.ref o, .int x1, .int x2, .int x3]) [.int (bI t1), .ref o] h 0 0 := by
    intro t1 ht1
    refine thr1_ok X E M ⟨Nat.le_of_ble_eq_true rfl, Nat.le_of_ble_eq_true rfl⟩ ⟨Nat.le_of_ble_eq_true rfl, Nat.le_of_ble_eq_true rfl⟩ (Nat.le_of_ble_eq_true rfl) (dk rfl) (fun h1 a1 r1 th1 M1 F1 => ?_)
    cases hb : t1 with
    | true =>
      refine br_ok X (dk rfl) rfl (show ((23 : Nat) : Int) + 5 = ((28 : Nat) : Int) from rfl) (fun q => absurd q bI_t) (fun _ => ?_)
      refine fst1_ok X (dk rfl) rfl ?_
      exact reti_ok X hr hlk rfl (dk rfl) ⟨⟨_, rfl⟩, ⟨_, _, _, _, _, M1⟩, F1⟩ (Nat.zero_le _) (Nat.zero_le _)
    | false =>
      refine br_ok X (dk rfl) rfl (show ((23 : Nat) : Int) + 5 = ((28 : Nat) : Int) from rfl) (fun _ => ?_) (fun q => absurd bI_f' q)
      obtain ⟨⟨j1, hj1, rfl⟩, ⟨j3, hj3, rfl⟩⟩ := ht1 hb
      obtain ⟨ss, s1, s2, s3⟩ := M1.slot
      obtain ⟨as, a1, a2, a3⟩ := M1.ans
      obtain ⟨b1, y1, e1, f1, g1, w1, n1⟩ := s3 j1 hj1
      have ly1 : (y1.map vI).length = y1.length := List.length_map _
      obtain ⟨b3, y3, e3, f3, g3, w3, n3⟩ := s3 j3 hj3
      have ly3 : (y3.map vI).length = y3.length := List.length_map _
      repeat refine fst1_ok X (dk rfl) rfl ?_
      refine callV_ok (ci := 12) (T := TX10) (N := 6) (av := [vI j1, .int x2]) (r := []) X E (c_isPlace h1 M1 hj1 x2) lkX10_isPlace mlX10_113 lmX10_isPlace lpX10_isPlace ⟨Nat.le_of_ble_eq_true rfl, Nat.le_of_ble_eq_true rfl⟩ ⟨Nat.le_of_ble_eq_true rfl, Nat.le_of_ble_eq_true rfl⟩ rfl M1.obj (Nat.le_of_ble_eq_true rfl) (dk rfl) ?_
      rintro v h2 ⟨⟨bp, rfl, hbp⟩, rfl⟩
      cases bp with
      | false =>
        refine br_ok X (dk rfl) rfl (show ((34 : Nat) : Int) + 8 = ((42 : Nat) : Int) from rfl) (fun q => absurd q bI_f) (fun _ => ?_)
        repeat refine fst1_ok X (dk rfl) rfl ?_
        refine no_ok X E M1 ⟨Nat.le_of_ble_eq_true rfl, Nat.le_of_ble_eq_true rfl⟩ ⟨Nat.le_of_ble_eq_true rfl, Nat.le_of_ble_eq_true rfl⟩ (Nat.le_of_ble_eq_true rfl) (dk rfl) (fun h9 a9 r9 th9 M9 F9 => ?_)
        exact reti_ok X hr hlk rfl (dk rfl) ⟨⟨_, rfl⟩, MI.trans (F1) ⟨⟨_, _, _, _, _, M9⟩, F9⟩⟩ (Nat.le_of_ble_eq_true rfl) (Nat.le_of_ble_eq_true rfl)
      | true =>
        refine br_ok X (dk rfl) rfl (show ((34 : Nat) : Int) + 8 = ((42 : Nat) : Int) from rfl) (fun _ => ?_) (fun q => absurd bI_t q)
        obtain ⟨j2, hj2, rfl⟩ := hbp rfl y1 f1
        obtain ⟨k0, t1, t2, t3, t4⟩ := w1.at hj2
        repeat refine fst1_ok X (dk rfl) rfl ?_
        refine getf_ok X flX10_11 (dk rfl) M1.obj rfl ?_
        refine fst1_ok X (dk rfl) rfl ?_
        refine ldr_ok X (dk rfl) s2 e1 (by omega) ?_
        repeat refine fst1_ok X (dk rfl) rfl ?_
        refine callS_ok (av := [.ref b1, vI 0, vI j2]) (r := [vI j1, .ref o]) X E (c_piece h2 (f := 0) (t := j2) g1 (Nat.zero_le _) (by omega) (by omega) rfl) lkX10_piece mlX10_40 lsX10_piece ⟨Nat.le_of_ble_eq_true rfl, Nat.le_of_ble_eq_true rfl⟩ ⟨Nat.le_of_ble_eq_true rfl, by show 0 + (j2 - 0) ≤ 128; omega⟩ (Nat.le_of_ble_eq_true rfl) (dk rfl) ?_
        rintro v h3 ⟨q1, rfl, hq1, hB1, rfl⟩
        have X1 := Ext.new hq1 (IA ((y1.drop 0).take (j2 - 0)))
        have l1 : ((y1.drop 0).take (j2 - 0)).length = j2 := by rw [List.length_take, List.drop_zero]; omega
        refine WS.widen (k' := 1) (n' := j2) (Nat.le_of_ble_eq_true rfl) (by show 0 + 0 + (j2 - 0) ≤ j2; omega) ?_
        repeat refine fst1_ok X (dk rfl) rfl ?_
        refine getf_ok X flX10_11 (dk rfl) (X1 _ _ M1.obj) rfl ?_
        refine fst1_ok X (dk rfl) rfl ?_
        refine ldr_ok X (dk rfl) (X1 _ _ s2) e3 (by omega) ?_
        refine callS_ok (av := [.ref q1, .ref b3]) (r := [vI j1, .ref o]) X E (c_joined _ (hup_self _ _ _) (X1 _ _ g3) (by rw [l1]; omega) (by omega)) lkX10_joined mlX10_102 lsX10_joined ⟨Nat.le_of_ble_eq_true rfl, Nat.le_of_ble_eq_true rfl⟩ ⟨Nat.le_of_ble_eq_true rfl, by show j2 + (((y1.drop 0).take (j2 - 0)).length + y3.length) ≤ 128; rw [l1]; omega⟩ (Nat.le_of_ble_eq_true rfl) (dk rfl) ?_
        rintro v h3 ⟨q2, rfl, hq2, hB2, rfl⟩
        have X2 := X1.trans (Ext.new hq2 (IA ((y1.drop 0).take (j2 - 0) ++ y3)))
        refine WS.widen (k' := 2) (n' := 48) (Nat.le_of_ble_eq_true rfl) (by show j2 + (((y1.drop 0).take (j2 - 0)).length + y3.length) ≤ 48; rw [l1]; omega) ?_
        repeat refine fst1_ok X (dk rfl) rfl ?_
        refine callS_ok (av := [.ref b1, vI j2]) (r := [.ref b1, .ref q2, vI j1, .ref o]) X E (c_end _ (X2 _ _ g1) w1.lt (by omega) t1) lkX10_end mlX10_36 lsX10_end ⟨Nat.le_of_ble_eq_true rfl, Nat.le_of_ble_eq_true rfl⟩ ⟨Nat.le_of_ble_eq_true rfl, Nat.le_of_ble_eq_true rfl⟩ (Nat.le_of_ble_eq_true rfl) (dk rfl) ?_
        rintro v h3 ⟨rfl, rfl⟩
        repeat refine fst1_ok X (dk rfl) rfl ?_
        refine alen_ok X (by decide) (dk rfl) (X2 _ _ g1) ?_
        rw [ly1]
        refine callS_ok (av := [.ref b1, vI (j2 + k0), vI y1.length]) (r := [.ref q2, vI j1, .ref o]) X E (c_piece _ (X2 _ _ g1) (by omega) (Nat.le_refl _) (by omega) rfl) lkX10_piece mlX10_40 lsX10_piece ⟨Nat.le_of_ble_eq_true rfl, Nat.le_of_ble_eq_true rfl⟩ ⟨Nat.le_of_ble_eq_true rfl, by show 48 + (y1.length - (j2 + k0)) ≤ 128; omega⟩ (Nat.le_of_ble_eq_true rfl) (dk rfl) ?_
        rintro v h3 ⟨q3, rfl, hq3, hB3, rfl⟩
        refine WS.widen (k' := 3) (n' := 64) (Nat.le_of_ble_eq_true rfl) (by show 48 + (y1.length - (j2 + k0)) ≤ 64; omega) ?_
        have X3 := X2.trans (Ext.new hq3 (IA ((y1.drop (j2 + k0)).take (y1.length - (j2 + k0)))))
        have l3 : ((y1.drop (j2 + k0)).take (y1.length - (j2 + k0))).length = y1.length - (j2 + k0) := by rw [List.length_take, List.length_drop]; omega
        have l2 : ((y1.drop 0).take (j2 - 0) ++ y3).length = j2 + y3.length := by rw [List.length_append, l1]
        refine callS_ok (av := [.ref q2, .ref q3]) (r := [vI j1, .ref o]) X E (c_joined _ (Ext.new hq3 _ _ _ (hup_self _ _ _)) (hup_self _ _ _) (by rw [l2]; omega) (by rw [l3]; omega)) lkX10_joined mlX10_102 lsX10_joined ⟨Nat.le_of_ble_eq_true rfl, Nat.le_of_ble_eq_true rfl⟩ ⟨Nat.le_of_ble_eq_true rfl, by show 64 + (((y1.drop 0).take (j2 - 0) ++ y3).length + ((y1.drop (j2 + k0)).take (y1.length - (j2 + k0))).length) ≤ 128; rw [l2, l3]; omega⟩ (Nat.le_of_ble_eq_true rfl) (dk rfl) ?_
        rintro v h3 ⟨q4, rfl, hq4, hB4, rfl⟩
        refine WS.widen (k' := 4) (n' := 128) (Nat.le_of_ble_eq_true rfl) (by show 64 + (((y1.drop 0).take (j2 - 0) ++ y3).length + ((y1.drop (j2 + k0)).take (y1.length - (j2 + k0))).length) ≤ 128; rw [l2, l3]; omega) ?_
        have e8 : (y1.drop (j2 + k0)).take (y1.length - (j2 + k0)) = y1.drop (j2 + k0) := List.take_of_length_le (by rw [List.length_drop]; omega)
        have e9 : ((y1.drop 0).take (j2 - 0) ++ y3) ++ (y1.drop (j2 + k0)).take (y1.length - (j2 + k0)) = (y1.take j2 ++ y3) ++ y1.drop (j2 + k0) := by rw [e8, List.drop_zero, Nat.sub_zero]
        have X4 := X3.trans (Ext.new hq4 (IA (((y1.drop 0).take (j2 - 0) ++ y3) ++ (y1.drop (j2 + k0)).take (y1.length - (j2 + k0)))))
        have M2 := M1.ext X4
        refine callV_ok (ci := 12) (T := TX10) (N := 6) (av := [vI j1, .ref q4]) (r := []) X E (c_give _ M2 hj1 (hup_self _ _ _) (by rw [e9]; exact w1.graft w3 hj2 t1) (by rw [List.length_append, l2, l3]; omega)) lkX10_give mlX10_106 lmX10_give lpX10_give ⟨Nat.le_of_ble_eq_true rfl, Nat.le_of_ble_eq_true rfl⟩ ⟨Nat.le_of_ble_eq_true rfl, Nat.le_of_ble_eq_true rfl⟩ rfl M2.obj (Nat.le_of_ble_eq_true rfl) (dk rfl) ?_
        rintro v h9 ⟨⟨w9, rfl⟩, I9⟩
        exact reti_ok X hr hlk rfl (dk rfl) ⟨⟨_, rfl⟩, MI.trans (F1.trans (Fr.ext X4)) I9⟩ (Nat.le_of_ble_eq_true rfl) (Nat.le_of_ble_eq_true rfl)
  iterate 2 refine fst1_ok X (dk rfl) rfl ?_
  refine isSlot_ok X E mlX10_95 ⟨Nat.le_of_ble_eq_true rfl, Nat.le_of_ble_eq_true rfl⟩ ⟨Nat.le_of_ble_eq_true rfl, Nat.le_of_ble_eq_true rfl⟩ (Nat.le_of_ble_eq_true rfl) (dk rfl) (fun mid1b0 mid1h0 => ?_)
  cases mid1b0 with
  | false =>
    refine br_ok X (dk rfl) rfl (show ((5 : Nat) : Int) + 10 = ((15 : Nat) : Int) from rfl) (fun _ => ?_) (fun q => absurd bI_f' q)
    refine fst1_ok X (dk rfl) rfl ?_
    refine br_ok X (dk rfl) rfl (show ((16 : Nat) : Int) + 4 = ((20 : Nat) : Int) from rfl) (fun _ => ?_) (fun q => absurd trivial q)
    exact mid1 true (fun z => by cases z)
  | true =>
    refine br_ok X (dk rfl) rfl (show ((5 : Nat) : Int) + 10 = ((15 : Nat) : Int) from rfl) (fun q => absurd q bI_t) (fun _ => ?_)
    iterate 1 refine fst1_ok X (dk rfl) rfl ?_
    refine isSlot_ok X E mlX10_95 ⟨Nat.le_of_ble_eq_true rfl, Nat.le_of_ble_eq_true rfl⟩ ⟨Nat.le_of_ble_eq_true rfl, Nat.le_of_ble_eq_true rfl⟩ (Nat.le_of_ble_eq_true rfl) (dk rfl) (fun mid1b1 mid1h1 => ?_)
    cases mid1b1 with
    | false =>
      refine br_ok X (dk rfl) rfl (show ((12 : Nat) : Int) + 7 = ((19 : Nat) : Int) from rfl) (fun q => absurd q bI_f) (fun _ => ?_)
      refine fst1_ok X (dk rfl) rfl ?_
      refine br_ok X (dk rfl) rfl (show ((16 : Nat) : Int) + 4 = ((20 : Nat) : Int) from rfl) (fun _ => ?_) (fun q => absurd trivial q)
      exact mid1 true (fun z => by cases z)
    | true =>
      refine br_ok X (dk rfl) rfl (show ((12 : Nat) : Int) + 7 = ((19 : Nat) : Int) from rfl) (fun _ => ?_) (fun q => absurd bI_t q)
      refine fst1_ok X (dk rfl) rfl ?_
      exact mid1 false (fun _ => ⟨mid1h0 rfl, mid1h1 rfl⟩)
set_option maxHeartbeats 4000000 in
theorem c_put (h : AH) (M : MD h o S A sl an a r kn th) (x1 x2 x3 : Int32) : CT la D cA B0 pa yX10_put cX10_put 7 (some .int) (rmD 2 30 300) [.ref o, .int x1, .int x2, .int x3] h (intR o S A kn h) := by
  refine CT_of (by decide +kernel) (Nat.le_of_ble_eq_true rfl) ?_
  intro p e s m args below meth c X E hr hlk hnm
  have dk : ∀ {pc : Nat} {q : Instr × Nat}, lkd DX10_put pc = some q → decode cX10_put pc = .ok q := lkd_ok DX10_put_ok
  have mid2 : ∀ t1 t2 : Bool, (t1 = false → inN 6 x1 ∧ inN 6 x3) → (t2 = false → inN 8 x2) → WR p la e (rmD 2 30 300) s m args below meth c D cA B0 7 (intR o S A kn h) 32 (lv_args 0 [.ref o, .int x1, .int x2, .int x3]) [.int (bI t2), .int (bI t1), .ref o] h 0 0 := by
    intro t1 t2 ht1 ht2
    refine thr2_ok X E M ⟨Nat.le_of_ble_eq_true rfl, Nat.le_of_ble_eq_true rfl⟩ ⟨Nat.le_of_ble_eq_true rfl, Nat.le_of_ble_eq_true rfl⟩ (Nat.le_of_ble_eq_true rfl) (dk rfl) (fun h1 a1 r1 th1 M1 F1 => ?_)
    cases hb : (t1 || t2) with
    | true =>
      refine br_ok X (dk rfl) rfl (show ((35 : Nat) : Int) + 5 = ((40 : Nat) : Int) from rfl) (fun q => absurd q bI_t) (fun _ => ?_)
      refine fst1_ok X (dk rfl) rfl ?_
      exact reti_ok X hr hlk rfl (dk rfl) ⟨⟨_, rfl⟩, ⟨_, _, _, _, _, M1⟩, F1⟩ (Nat.zero_le _) (Nat.zero_le _)
    | false =>
      refine br_ok X (dk rfl) rfl (show ((35 : Nat) : Int) + 5 = ((40 : Nat) : Int) from rfl) (fun _ => ?_) (fun q => absurd bI_f' q)
      obtain ⟨hb1, hb2⟩ := Bool.or_eq_false_iff.mp hb
      obtain ⟨⟨j1, hj1, rfl⟩, ⟨j3, hj3, rfl⟩⟩ := ht1 hb1
      obtain ⟨j2, hj2, rfl⟩ := ht2 hb2
      obtain ⟨ss, s1, s2, s3⟩ := M1.slot
      obtain ⟨as, a1, a2, a3⟩ := M1.ans
      obtain ⟨b1, y1, e1, f1, g1, w1, n1⟩ := s3 j1 hj1
      have ly1 : (y1.map vI).length = y1.length := List.length_map _
      obtain ⟨b3, y3, e3, f3, g3, w3, n3⟩ := s3 j3 hj3
      have ly3 : (y3.map vI).length = y3.length := List.length_map _
      repeat refine fst1_ok X (dk rfl) rfl ?_
      refine getf_ok X flX10_11 (dk rfl) M1.obj rfl ?_
      refine fst1_ok X (dk rfl) rfl ?_
      refine ldr_ok X (dk rfl) s2 e1 (by omega) ?_
      repeat refine fst1_ok X (dk rfl) rfl ?_
      refine callS_ok (av := [.ref b1, vI j2]) (r := []) X E (c_often h1 (nI j2) g1 (by omega)) lkX10_often mlX10_117 lsX10_often ⟨Nat.le_of_ble_eq_true rfl, Nat.le_of_ble_eq_true rfl⟩ ⟨Nat.le_of_ble_eq_true rfl, Nat.le_of_ble_eq_true rfl⟩ (Nat.le_of_ble_eq_true rfl) (dk rfl) ?_
      rintro v h2 ⟨⟨w0, rfl⟩, rfl⟩
      repeat refine fst1_ok X (dk rfl) rfl ?_
      refine callS_ok (av := []) (r := []) X E (c_none h2) lkX10_none mlX10_24 lsX10_none ⟨Nat.le_of_ble_eq_true rfl, Nat.le_of_ble_eq_true rfl⟩ ⟨Nat.le_of_ble_eq_true rfl, Nat.le_of_ble_eq_true rfl⟩ (Nat.le_of_ble_eq_true rfl) (dk rfl) ?_
      rintro v h3 ⟨N, rfl, hN, hBN, XN, nN⟩
      repeat refine fst1_ok X (dk rfl) rfl ?_
      have M2 := M1.ext XN
      obtain ⟨ns, k1, k2, k3⟩ := nN
      have kl : ns.length = 8 := k1
      refine getf_ok X flX10_11 (dk rfl) M2.obj rfl ?_
      refine fst1_ok X (dk rfl) rfl ?_
      refine ldr_ok X (dk rfl) (XN _ _ s2) e3 (by omega) ?_
      refine str_ok X (dk rfl) k2 (XN _ _ g3) (by rw [List.length_map]; omega) (by rw [List.length_map]; omega) ?_
      have XA : Ext h2 (hup h3 N (105, (ns.map Value.ref).set j2 (.ref b3))) := XN.set hN _
      obtain ⟨vs0, p1, p2, nA⟩ := AnsPut ⟨ns, k1, k2, k3⟩ hj2 (XN _ _ g3) rfl
      cases k2.symm.trans p1
      have oA := AO_none.set (k := j2) ⟨w3, n3⟩
      generalize hrows : ([[0], [1], [2], [3], [4], [5], [6], [7]] : List (List Nat)).set j2 y3 = rows at nA oA
      have M3 := M1.ext XA
      repeat refine fst1_ok X (dk rfl) rfl ?_
      refine getf_ok X flX10_11 (dk rfl) M3.obj rfl ?_
      refine fst1_ok X (dk rfl) rfl ?_
      refine ldr_ok X (dk rfl) (XA _ _ s2) e1 (by omega) ?_
      have ul : (usedL rows y1).length ≤ 256 := by have := usedL_len rows (M := 16) (fun z hz => (oA.2 z hz).2) (by omega) y1; omega
      refine callS_ok (av := [.ref N, .ref b1]) (r := []) X E (c_used _ nA (XA _ _ g1) (by omega) (by rw [oA.1]; omega) w1.lt (fun z hz hz10 => by rw [oA.1]; rcases w1.2 z hz with q | q <;> omega) (by omega)) lkX10_used mlX10_120 lsX10_used ⟨Nat.le_of_ble_eq_true rfl, Nat.le_of_ble_eq_true rfl⟩ ⟨by show 9 + (1 + y1.length) ≤ 30; omega, by show 16 + ((usedL rows y1).length + y1.length) ≤ 300; omega⟩ (Nat.le_of_ble_eq_true rfl) (dk rfl) ?_
      rintro v h4 ⟨q, rfl, hq, hBq, XQ, hQ⟩
      have M4 := M3.ext XQ
      have XX := XA.trans XQ
      have tU := TW.used (rows := rows) (fun z hz => (oA.2 z hz).1) (by rw [oA.1]; omega) w1
      have lq : ((usedL rows y1).map vI).length = (usedL rows y1).length := List.length_map _
      refine WS.widen (k' := 30) (n' := 300) (by show 9 + (1 + y1.length) ≤ 30; omega) (by show 16 + ((usedL rows y1).length + y1.length) ≤ 300; omega) ?_
      repeat refine fst1_ok X (dk rfl) rfl ?_
      refine alen_ok X (by decide) (dk rfl) hQ ?_
      rw [lq]
      repeat refine fst1_ok X (dk rfl) rfl ?_
      refine br_ok X (dk rfl) rfl (show ((85 : Nat) : Int) + 8 = ((93 : Nat) : Int) from rfl) (fun c1 => ?_) (fun _ => ?_)
      · rw [nI_16] at c1
        have hl16 : (usedL rows y1).length ≤ 16 := (nI_leI (by omega) (by omega)).mp c1
        repeat refine fst1_ok X (dk rfl) rfl ?_
        refine getf_ok X flX10_11 (dk rfl) M4.obj rfl ?_
        repeat refine fst1_ok X (dk rfl) rfl ?_
        obtain ⟨vs, v1, v2, M5⟩ := M4.setS hj1 hQ ⟨tU, hl16⟩
        refine str_ok X (dk rfl) v1 hQ (by omega) (by omega) ?_
        repeat refine fst1_ok X (dk rfl) rfl ?_
        refine done_ok X E M5 ⟨Nat.le_of_ble_eq_true rfl, Nat.le_of_ble_eq_true rfl⟩ ⟨Nat.le_of_ble_eq_true rfl, Nat.le_of_ble_eq_true rfl⟩ (Nat.le_of_ble_eq_true rfl) (dk rfl) (fun h9 a9 r9 th9 M9 F9 => ?_)
        exact reti_ok X hr hlk rfl (dk rfl) ⟨⟨_, rfl⟩, MI.trans (F1.trans ((Fr.ext XX).set (Or.inr (Or.inl rfl)) _)) ⟨⟨_, _, _, _, _, M9⟩, F9⟩⟩ (Nat.le_of_ble_eq_true rfl) (Nat.le_of_ble_eq_true rfl)
      · repeat refine fst1_ok X (dk rfl) rfl ?_
        refine no_ok X E M4 ⟨Nat.le_of_ble_eq_true rfl, Nat.le_of_ble_eq_true rfl⟩ ⟨Nat.le_of_ble_eq_true rfl, Nat.le_of_ble_eq_true rfl⟩ (Nat.le_of_ble_eq_true rfl) (dk rfl) (fun h9 a9 r9 th9 M9 F9 => ?_)
        exact reti_ok X hr hlk rfl (dk rfl) ⟨⟨_, rfl⟩, MI.trans (F1.trans (Fr.ext XX)) ⟨⟨_, _, _, _, _, M9⟩, F9⟩⟩ (Nat.le_of_ble_eq_true rfl) (Nat.le_of_ble_eq_true rfl)
  have mid1 : ∀ t1 : Bool, (t1 = false → inN 6 x1 ∧ inN 6 x3) → WR p la e (rmD 2 30 300) s m args below meth c D cA B0 7 (intR o S A kn h) 20 (lv_args 0 [.ref o, .int x1, .int x2, .int x3]) [.int (bI t1), .ref o] h 0 0 := by
    intro t1 ht1
    have mid2 := fun t2 => mid2 t1 t2 ht1
    iterate 1 refine fst1_ok X (dk rfl) rfl ?_
    refine isName_ok X E mlX10_99 ⟨Nat.le_of_ble_eq_true rfl, Nat.le_of_ble_eq_true rfl⟩ ⟨Nat.le_of_ble_eq_true rfl, Nat.le_of_ble_eq_true rfl⟩ (Nat.le_of_ble_eq_true rfl) (dk rfl) (fun mid2b0 mid2h0 => ?_)
    cases mid2b0 with
    | false =>
      refine br_ok X (dk rfl) rfl (show ((24 : Nat) : Int) + 7 = ((31 : Nat) : Int) from rfl) (fun q => absurd q bI_f) (fun _ => ?_)
      refine fst1_ok X (dk rfl) rfl ?_
      refine br_ok X (dk rfl) rfl (show ((28 : Nat) : Int) + 4 = ((32 : Nat) : Int) from rfl) (fun _ => ?_) (fun q => absurd trivial q)
      exact mid2 true (fun z => by cases z)
    | true =>
      refine br_ok X (dk rfl) rfl (show ((24 : Nat) : Int) + 7 = ((31 : Nat) : Int) from rfl) (fun _ => ?_) (fun q => absurd bI_t q)
      refine fst1_ok X (dk rfl) rfl ?_
      exact mid2 false (fun _ => mid2h0 rfl)
  iterate 2 refine fst1_ok X (dk rfl) rfl ?_
  refine isSlot_ok X E mlX10_95 ⟨Nat.le_of_ble_eq_true rfl, Nat.le_of_ble_eq_true rfl⟩ ⟨Nat.le_of_ble_eq_true rfl, Nat.le_of_ble_eq_true rfl⟩ (Nat.le_of_ble_eq_true rfl) (dk rfl) (fun mid1b0 mid1h0 => ?_)
  cases mid1b0 with
  | false =>
    refine br_ok X (dk rfl) rfl (show ((5 : Nat) : Int) + 10 = ((15 : Nat) : Int) from rfl) (fun _ => ?_) (fun q => absurd bI_f' q)
    refine fst1_ok X (dk rfl) rfl ?_
    refine br_ok X (dk rfl) rfl (show ((16 : Nat) : Int) + 4 = ((20 : Nat) : Int) from rfl) (fun _ => ?_) (fun q => absurd trivial q)
    exact mid1 true (fun z => by cases z)
  | true =>
    refine br_ok X (dk rfl) rfl (show ((5 : Nat) : Int) + 10 = ((15 : Nat) : Int) from rfl) (fun q => absurd q bI_t) (fun _ => ?_)
    iterate 1 refine fst1_ok X (dk rfl) rfl ?_
    refine isSlot_ok X E mlX10_95 ⟨Nat.le_of_ble_eq_true rfl, Nat.le_of_ble_eq_true rfl⟩ ⟨Nat.le_of_ble_eq_true rfl, Nat.le_of_ble_eq_true rfl⟩ (Nat.le_of_ble_eq_true rfl) (dk rfl) (fun mid1b1 mid1h1 => ?_)
    cases mid1b1 with
    | false =>
      refine br_ok X (dk rfl) rfl (show ((12 : Nat) : Int) + 7 = ((19 : Nat) : Int) from rfl) (fun q => absurd q bI_f) (fun _ => ?_)
      refine fst1_ok X (dk rfl) rfl ?_
      refine br_ok X (dk rfl) rfl (show ((16 : Nat) : Int) + 4 = ((20 : Nat) : Int) from rfl) (fun _ => ?_) (fun q => absurd trivial q)
      exact mid1 true (fun z => by cases z)
    | true =>
      refine br_ok X (dk rfl) rfl (show ((12 : Nat) : Int) + 7 = ((19 : Nat) : Int) from rfl) (fun _ => ?_) (fun q => absurd bI_t q)
      refine fst1_ok X (dk rfl) rfl ?_
      exact mid1 false (fun _ => ⟨mid1h0 rfl, mid1h1 rfl⟩)
end M39
