/-! what is asked of the reference -/
theorem inN_le {x : Int32} {K : Nat} (hK : K < 2 ^ 20) (h1 : ¬ x < 0) (h2 : x ≤ nI K) : inN (K + 1) x := by
  obtain ⟨j, hj, rfl⟩ := nI_of h1
  exact ⟨j, by have := (nI_leI hj (by omega)).mp h2; omega, rfl⟩
theorem ite_bI (c : Prop) [Decidable c] : (if c then (1 : Int32) else 0) = bI (decide c) := by
  by_cases h : c
  · rw [if_pos h, decide_eq_true h]; decide
  · rw [if_neg h, decide_eq_false h]; decide
section M39
variable {la : Launch} {D : va_G} {cA : Nat → ClassId} {B0 pa : Nat} {o S A : Nat} {sl : List (List Nat)} {an : List (List (List Nat))} {a r kn th : Int32}
set_option maxHeartbeats 4000000 in
theorem c_size (h : AH) (M : MD h o S A sl an a r kn th) (x1 : Int32) : CT la D cA B0 pa yX10_size cX10_size 2 (some .int) (rmD 2 0 0) [.ref o, .int x1] h (intR o S A kn h) := by
  refine CT_of (by decide +kernel) (Nat.le_of_ble_eq_true rfl) ?_
  intro p e s m args below meth c X E hr hlk hnm
  have dk : ∀ {pc : Nat} {q : Instr × Nat}, lkd DX10_size pc = some q → decode cX10_size pc = .ok q := lkd_ok DX10_size_ok
  have mid1 : ∀ t1 : Bool, (t1 = false → inN 6 x1) → WR p la e (rmD 2 0 0) s m args below meth c D cA B0 2 (intR o S A kn h) 13 (lv_args 0 [.ref o, .int x1]) [.int (bI t1), .ref o] h 0 0 := by
    intro t1 ht1
    refine thr1_ok X E M ⟨Nat.le_of_ble_eq_true rfl, Nat.le_of_ble_eq_true rfl⟩ ⟨Nat.le_of_ble_eq_true rfl, Nat.le_of_ble_eq_true rfl⟩ (Nat.le_of_ble_eq_true rfl) (dk rfl) (fun h1 a1 r1 th1 M1 F1 => ?_)
    cases hb : t1 with
    | true =>
      refine br_ok X (dk rfl) rfl (show ((16 : Nat) : Int) + 7 = ((23 : Nat) : Int) from rfl) (fun q => absurd q bI_t) (fun _ => ?_)
      refine fst1_ok X (dk rfl) rfl ?_
      refine br_ok X (dk rfl) rfl (show ((20 : Nat) : Int) + 10 = ((30 : Nat) : Int) from rfl) (fun _ => ?_) (fun q => absurd trivial q)
      exact reti_ok X hr hlk rfl (dk rfl) ⟨⟨_, rfl⟩, ⟨_, _, _, _, _, M1⟩, F1⟩ (Nat.zero_le _) (Nat.zero_le _)
    | false =>
      refine br_ok X (dk rfl) rfl (show ((16 : Nat) : Int) + 7 = ((23 : Nat) : Int) from rfl) (fun _ => ?_) (fun q => absurd bI_f' q)
      obtain ⟨j1, hj1, rfl⟩ := ht1 hb
      obtain ⟨ss, s1, s2, s3⟩ := M1.slot
      obtain ⟨as, a1, a2, a3⟩ := M1.ans
      obtain ⟨b1, y1, e1, f1, g1, w1, n1⟩ := s3 j1 hj1
      have ly1 : (y1.map vI).length = y1.length := List.length_map _
      repeat refine fst1_ok X (dk rfl) rfl ?_
      refine getf_ok X flX10_11 (dk rfl) M1.obj rfl ?_
      refine fst1_ok X (dk rfl) rfl ?_
      refine ldr_ok X (dk rfl) s2 e1 (by omega) ?_
      refine alen_ok X (by decide) (dk rfl) g1 ?_
      exact reti_ok X hr hlk rfl (dk rfl) ⟨⟨_, rfl⟩, ⟨_, _, _, _, _, M1⟩, F1⟩ (Nat.le_of_ble_eq_true rfl) (Nat.le_of_ble_eq_true rfl)
  iterate 2 refine fst1_ok X (dk rfl) rfl ?_
  refine isSlot_ok X E mlX10_95 ⟨Nat.le_of_ble_eq_true rfl, Nat.le_of_ble_eq_true rfl⟩ ⟨Nat.le_of_ble_eq_true rfl, Nat.le_of_ble_eq_true rfl⟩ (Nat.le_of_ble_eq_true rfl) (dk rfl) (fun mid1b0 mid1h0 => ?_)
  cases mid1b0 with
  | false =>
    refine br_ok X (dk rfl) rfl (show ((5 : Nat) : Int) + 7 = ((12 : Nat) : Int) from rfl) (fun q => absurd q bI_f) (fun _ => ?_)
    refine fst1_ok X (dk rfl) rfl ?_
    refine br_ok X (dk rfl) rfl (show ((9 : Nat) : Int) + 4 = ((13 : Nat) : Int) from rfl) (fun _ => ?_) (fun q => absurd trivial q)
    exact mid1 true (fun z => by cases z)
  | true =>
    refine br_ok X (dk rfl) rfl (show ((5 : Nat) : Int) + 7 = ((12 : Nat) : Int) from rfl) (fun _ => ?_) (fun q => absurd bI_t q)
    refine fst1_ok X (dk rfl) rfl ?_
    exact mid1 false (fun _ => mid1h0 rfl)
set_option maxHeartbeats 4000000 in
theorem c_depth (h : AH) (M : MD h o S A sl an a r kn th) (x1 : Int32) : CT la D cA B0 pa yX10_depth cX10_depth 2 (some .int) (rmD 19 0 0) [.ref o, .int x1] h (intR o S A kn h) := by
  refine CT_of (by decide +kernel) (Nat.le_of_ble_eq_true rfl) ?_
  intro p e s m args below meth c X E hr hlk hnm
  have dk : ∀ {pc : Nat} {q : Instr × Nat}, lkd DX10_depth pc = some q → decode cX10_depth pc = .ok q := lkd_ok DX10_depth_ok
  have mid1 : ∀ t1 : Bool, (t1 = false → inN 6 x1) → WR p la e (rmD 19 0 0) s m args below meth c D cA B0 2 (intR o S A kn h) 13 (lv_args 0 [.ref o, .int x1]) [.int (bI t1), .ref o] h 0 0 := by
    intro t1 ht1
    refine thr1_ok X E M ⟨Nat.le_of_ble_eq_true rfl, Nat.le_of_ble_eq_true rfl⟩ ⟨Nat.le_of_ble_eq_true rfl, Nat.le_of_ble_eq_true rfl⟩ (Nat.le_of_ble_eq_true rfl) (dk rfl) (fun h1 a1 r1 th1 M1 F1 => ?_)
    cases hb : t1 with
    | true =>
      refine br_ok X (dk rfl) rfl (show ((16 : Nat) : Int) + 7 = ((23 : Nat) : Int) from rfl) (fun q => absurd q bI_t) (fun _ => ?_)
      refine fst1_ok X (dk rfl) rfl ?_
      refine br_ok X (dk rfl) rfl (show ((20 : Nat) : Int) + 13 = ((33 : Nat) : Int) from rfl) (fun _ => ?_) (fun q => absurd trivial q)
      exact reti_ok X hr hlk rfl (dk rfl) ⟨⟨_, rfl⟩, ⟨_, _, _, _, _, M1⟩, F1⟩ (Nat.zero_le _) (Nat.zero_le _)
    | false =>
      refine br_ok X (dk rfl) rfl (show ((16 : Nat) : Int) + 7 = ((23 : Nat) : Int) from rfl) (fun _ => ?_) (fun q => absurd bI_f' q)
      obtain ⟨j1, hj1, rfl⟩ := ht1 hb
      obtain ⟨ss, s1, s2, s3⟩ := M1.slot
      obtain ⟨as, a1, a2, a3⟩ := M1.ans
      obtain ⟨b1, y1, e1, f1, g1, w1, n1⟩ := s3 j1 hj1
      have ly1 : (y1.map vI).length = y1.length := List.length_map _
      repeat refine fst1_ok X (dk rfl) rfl ?_
      refine getf_ok X flX10_11 (dk rfl) M1.obj rfl ?_
      refine fst1_ok X (dk rfl) rfl ?_
      refine ldr_ok X (dk rfl) s2 e1 (by omega) ?_
      repeat refine fst1_ok X (dk rfl) rfl ?_
      refine callS_ok (av := [.ref b1, vI 0]) (r := []) X E (c_depthOf h1 g1 (by omega) w1.lt 16 0 y1.length (by rw [List.drop_zero]; exact w1.1) n1) lkX10_depthOf mlX10_63 lsX10_depthOf ⟨Nat.le_of_ble_eq_true rfl, Nat.le_of_ble_eq_true rfl⟩ ⟨Nat.le_of_ble_eq_true rfl, Nat.le_of_ble_eq_true rfl⟩ (Nat.le_of_ble_eq_true rfl) (dk rfl) ?_
      rintro v h2 ⟨⟨d, rfl, hd⟩, rfl⟩
      exact reti_ok X hr hlk rfl (dk rfl) ⟨⟨_, rfl⟩, ⟨_, _, _, _, _, M1⟩, F1⟩ (Nat.le_of_ble_eq_true rfl) (Nat.le_of_ble_eq_true rfl)
  iterate 2 refine fst1_ok X (dk rfl) rfl ?_
  refine isSlot_ok X E mlX10_95 ⟨Nat.le_of_ble_eq_true rfl, Nat.le_of_ble_eq_true rfl⟩ ⟨Nat.le_of_ble_eq_true rfl, Nat.le_of_ble_eq_true rfl⟩ (Nat.le_of_ble_eq_true rfl) (dk rfl) (fun mid1b0 mid1h0 => ?_)
  cases mid1b0 with
  | false =>
    refine br_ok X (dk rfl) rfl (show ((5 : Nat) : Int) + 7 = ((12 : Nat) : Int) from rfl) (fun q => absurd q bI_f) (fun _ => ?_)
    refine fst1_ok X (dk rfl) rfl ?_
    refine br_ok X (dk rfl) rfl (show ((9 : Nat) : Int) + 4 = ((13 : Nat) : Int) from rfl) (fun _ => ?_) (fun q => absurd trivial q)
    exact mid1 true (fun z => by cases z)
  | true =>
    refine br_ok X (dk rfl) rfl (show ((5 : Nat) : Int) + 7 = ((12 : Nat) : Int) from rfl) (fun _ => ?_) (fun q => absurd bI_t q)
    refine fst1_ok X (dk rfl) rfl ?_
    exact mid1 false (fun _ => mid1h0 rfl)
set_option maxHeartbeats 4000000 in
theorem c_sharedOf_ (h : AH) {q : Nat} {x : List Nat} (hq : h q = some (IA x)) (hx : TW x ∧ x.length ≤ 16) : CT la D cA B0 pa yX10_sharedOf_ cX10_sharedOf_ 1 (some .int) (rmD 5 1 1) [.ref q] h (fun v h' => (∃ w : Int32, v = some (.int w)) ∧ Ext h h') := by
  refine CT_of (by decide +kernel) (Nat.le_of_ble_eq_true rfl) ?_
  intro p e s m args below meth c X E hr hlk hnm
  have dk : ∀ {pc : Nat} {q : Instr × Nat}, lkd DX10_sharedOf_ pc = some q → decode cX10_sharedOf_ pc = .ok q := lkd_ok DX10_sharedOf__ok
  refine fst1_ok X (dk rfl) rfl ?_
  refine newR_ok (N := 1) (kd := 105) X E (by decide) cl10_9 (by decide) (dk rfl) (by decide) (by decide) (fun T hT hBT => ?_)
  have hqT : q ≠ T := fun z => by rw [z, hT] at hq; cases hq
  repeat refine fst1_ok X (dk rfl) rfl ?_
  refine str_ok (j := 0) X (dk rfl) (hup_self _ _ _) (by rw [hup_ne _ _ hqT]; exact hq) (by simp) (by simp) ?_
  rw [hup_hup]
  have hA : Ans (hup h T (105, (List.replicate 1 Value.null).set 0 (.ref q))) T [x] := by
    refine ⟨[q], rfl, hup_self _ _ _, fun k a r e1 e2 => ?_⟩
    cases k with
    | zero => cases e1; cases e2; rw [hup_ne _ _ hqT]; exact hq
    | succ k => simp at e1
  refine callS_ok (av := [.ref T]) (r := []) X E (c_sharedOf _ hA ⟨by simp, fun r hr => by simp at hr; rw [hr]; exact hx⟩) lkX10_sharedOf mlX10_199 lsX10_sharedOf ⟨Nat.le_of_ble_eq_true rfl, Nat.le_of_ble_eq_true rfl⟩ ⟨Nat.le_of_ble_eq_true rfl, Nat.le_of_ble_eq_true rfl⟩ (Nat.le_of_ble_eq_true rfl) (dk rfl) ?_
  rintro v h2 ⟨⟨w, rfl⟩, rfl⟩
  exact reti_ok X hr hlk rfl (dk rfl) ⟨⟨_, rfl⟩, Ext.new hT _⟩ (Nat.le_of_ble_eq_true rfl) (Nat.le_of_ble_eq_true rfl)
set_option maxHeartbeats 4000000 in
theorem c_shared (h : AH) (M : MD h o S A sl an a r kn th) (x1 : Int32) : CT la D cA B0 pa yX10_shared cX10_shared 2 (some .int) (rmD 6 1 1) [.ref o, .int x1] h (intR o S A kn h) := by
  refine CT_of (by decide +kernel) (Nat.le_of_ble_eq_true rfl) ?_
  intro p e s m args below meth c X E hr hlk hnm
  have dk : ∀ {pc : Nat} {q : Instr × Nat}, lkd DX10_shared pc = some q → decode cX10_shared pc = .ok q := lkd_ok DX10_shared_ok
  have mid1 : ∀ t1 : Bool, (t1 = false → inN 6 x1) → WR p la e (rmD 6 1 1) s m args below meth c D cA B0 2 (intR o S A kn h) 13 (lv_args 0 [.ref o, .int x1]) [.int (bI t1), .ref o] h 0 0 := by
    intro t1 ht1
    refine thr1_ok X E M ⟨Nat.le_of_ble_eq_true rfl, Nat.le_of_ble_eq_true rfl⟩ ⟨Nat.le_of_ble_eq_true rfl, Nat.le_of_ble_eq_true rfl⟩ (Nat.le_of_ble_eq_true rfl) (dk rfl) (fun h1 a1 r1 th1 M1 F1 => ?_)
    cases hb : t1 with
    | true =>
      refine br_ok X (dk rfl) rfl (show ((16 : Nat) : Int) + 7 = ((23 : Nat) : Int) from rfl) (fun q => absurd q bI_t) (fun _ => ?_)
      refine fst1_ok X (dk rfl) rfl ?_
      refine br_ok X (dk rfl) rfl (show ((20 : Nat) : Int) + 12 = ((32 : Nat) : Int) from rfl) (fun _ => ?_) (fun q => absurd trivial q)
      exact reti_ok X hr hlk rfl (dk rfl) ⟨⟨_, rfl⟩, ⟨_, _, _, _, _, M1⟩, F1⟩ (Nat.zero_le _) (Nat.zero_le _)
    | false =>
      refine br_ok X (dk rfl) rfl (show ((16 : Nat) : Int) + 7 = ((23 : Nat) : Int) from rfl) (fun _ => ?_) (fun q => absurd bI_f' q)
      obtain ⟨j1, hj1, rfl⟩ := ht1 hb
      obtain ⟨ss, s1, s2, s3⟩ := M1.slot
      obtain ⟨as, a1, a2, a3⟩ := M1.ans
      obtain ⟨b1, y1, e1, f1, g1, w1, n1⟩ := s3 j1 hj1
      have ly1 : (y1.map vI).length = y1.length := List.length_map _
      repeat refine fst1_ok X (dk rfl) rfl ?_
      refine getf_ok X flX10_11 (dk rfl) M1.obj rfl ?_
      refine fst1_ok X (dk rfl) rfl ?_
      refine ldr_ok X (dk rfl) s2 e1 (by omega) ?_
      refine callS_ok (av := [.ref b1]) (r := []) X E (c_sharedOf_ h1 g1 ⟨w1, n1⟩) lkX10_sharedOf_ mlX10_202 lsX10_sharedOf_ ⟨Nat.le_of_ble_eq_true rfl, Nat.le_of_ble_eq_true rfl⟩ ⟨Nat.le_of_ble_eq_true rfl, Nat.le_of_ble_eq_true rfl⟩ (Nat.le_of_ble_eq_true rfl) (dk rfl) ?_
      rintro v h2 ⟨⟨d, rfl⟩, X2⟩
      exact reti_ok X hr hlk rfl (dk rfl) ⟨⟨_, rfl⟩, ⟨_, _, _, _, _, (M1.ext X2)⟩, F1.trans (Fr.ext X2)⟩ (Nat.le_of_ble_eq_true rfl) (Nat.le_of_ble_eq_true rfl)
  iterate 2 refine fst1_ok X (dk rfl) rfl ?_
  refine isSlot_ok X E mlX10_95 ⟨Nat.le_of_ble_eq_true rfl, Nat.le_of_ble_eq_true rfl⟩ ⟨Nat.le_of_ble_eq_true rfl, Nat.le_of_ble_eq_true rfl⟩ (Nat.le_of_ble_eq_true rfl) (dk rfl) (fun mid1b0 mid1h0 => ?_)
  cases mid1b0 with
  | false =>
    refine br_ok X (dk rfl) rfl (show ((5 : Nat) : Int) + 7 = ((12 : Nat) : Int) from rfl) (fun q => absurd q bI_f) (fun _ => ?_)
    refine fst1_ok X (dk rfl) rfl ?_
    refine br_ok X (dk rfl) rfl (show ((9 : Nat) : Int) + 4 = ((13 : Nat) : Int) from rfl) (fun _ => ?_) (fun q => absurd trivial q)
    exact mid1 true (fun z => by cases z)
  | true =>
    refine br_ok X (dk rfl) rfl (show ((5 : Nat) : Int) + 7 = ((12 : Nat) : Int) from rfl) (fun _ => ?_) (fun q => absurd bI_t q)
    refine fst1_ok X (dk rfl) rfl ?_
    exact mid1 false (fun _ => mid1h0 rfl)
set_option maxHeartbeats 4000000 in
theorem c_letter (h : AH) (M : MD h o S A sl an a r kn th) (x1 x2 : Int32) : CT la D cA B0 pa yX10_letter cX10_letter 3 (some .int) (rmD 2 0 0) [.ref o, .int x1, .int x2] h (intR o S A kn h) := by
  refine CT_of (by decide +kernel) (Nat.le_of_ble_eq_true rfl) ?_
  intro p e s m args below meth c X E hr hlk hnm
  have dk : ∀ {pc : Nat} {q : Instr × Nat}, lkd DX10_letter pc = some q → decode cX10_letter pc = .ok q := lkd_ok DX10_letter_ok
  have mid1 : ∀ t1 : Bool, (t1 = false → inN 6 x1) → WR p la e (rmD 2 0 0) s m args below meth c D cA B0 3 (intR o S A kn h) 13 (lv_args 0 [.ref o, .int x1, .int x2]) [.int (bI t1), .ref o] h 0 0 := by
    intro t1 ht1
    refine thr1_ok X E M ⟨Nat.le_of_ble_eq_true rfl, Nat.le_of_ble_eq_true rfl⟩ ⟨Nat.le_of_ble_eq_true rfl, Nat.le_of_ble_eq_true rfl⟩ (Nat.le_of_ble_eq_true rfl) (dk rfl) (fun h1 a1 r1 th1 M1 F1 => ?_)
    cases hb : t1 with
    | true =>
      refine br_ok X (dk rfl) rfl (show ((16 : Nat) : Int) + 7 = ((23 : Nat) : Int) from rfl) (fun q => absurd q bI_t) (fun _ => ?_)
      refine fst1_ok X (dk rfl) rfl ?_
      refine br_ok X (dk rfl) rfl (show ((20 : Nat) : Int) + 25 = ((45 : Nat) : Int) from rfl) (fun _ => ?_) (fun q => absurd trivial q)
      exact reti_ok X hr hlk rfl (dk rfl) ⟨⟨_, rfl⟩, ⟨_, _, _, _, _, M1⟩, F1⟩ (Nat.zero_le _) (Nat.zero_le _)
    | false =>
      refine br_ok X (dk rfl) rfl (show ((16 : Nat) : Int) + 7 = ((23 : Nat) : Int) from rfl) (fun _ => ?_) (fun q => absurd bI_f' q)
      obtain ⟨j1, hj1, rfl⟩ := ht1 hb
      obtain ⟨ss, s1, s2, s3⟩ := M1.slot
      obtain ⟨as, a1, a2, a3⟩ := M1.ans
      obtain ⟨b1, y1, e1, f1, g1, w1, n1⟩ := s3 j1 hj1
      have ly1 : (y1.map vI).length = y1.length := List.length_map _
      repeat refine fst1_ok X (dk rfl) rfl ?_
      refine callV_ok (ci := 12) (T := TX10) (N := 6) (av := [vI j1, .int x2]) (r := []) X E (c_isPlace h1 M1 hj1 x2) lkX10_isPlace mlX10_113 lmX10_isPlace lpX10_isPlace ⟨Nat.le_of_ble_eq_true rfl, Nat.le_of_ble_eq_true rfl⟩ ⟨Nat.le_of_ble_eq_true rfl, Nat.le_of_ble_eq_true rfl⟩ rfl M1.obj (Nat.le_of_ble_eq_true rfl) (dk rfl) ?_
      rintro v h2 ⟨⟨bp, rfl, hbp⟩, rfl⟩
      cases bp with
      | false =>
        refine br_ok X (dk rfl) rfl (show ((29 : Nat) : Int) + 14 = ((43 : Nat) : Int) from rfl) (fun _ => ?_) (fun q => absurd bI_f' q)
        refine fst1_ok X (dk rfl) rfl ?_
        exact reti_ok X hr hlk rfl (dk rfl) ⟨⟨_, rfl⟩, ⟨_, _, _, _, _, M1⟩, F1⟩ (Nat.le_of_ble_eq_true rfl) (Nat.le_of_ble_eq_true rfl)
      | true =>
        refine br_ok X (dk rfl) rfl (show ((29 : Nat) : Int) + 14 = ((43 : Nat) : Int) from rfl) (fun q => absurd q bI_t) (fun _ => ?_)
        obtain ⟨j2, hj2, rfl⟩ := hbp rfl y1 f1
        obtain ⟨x, hx⟩ : ∃ x, y1[j2]? = some x := ⟨y1[j2]'hj2, by simp⟩
        repeat refine fst1_ok X (dk rfl) rfl ?_
        refine getf_ok X flX10_11 (dk rfl) M1.obj rfl ?_
        refine fst1_ok X (dk rfl) rfl ?_
        refine ldr_ok X (dk rfl) s2 e1 (by omega) ?_
        refine fst1_ok X (dk rfl) rfl ?_
        refine ald_ok X (Or.inl ⟨rfl, rfl⟩) (dk rfl) g1 (inA_nI (by omega) (IA_get hx)) ?_
        refine br_ok X (dk rfl) rfl (show ((40 : Nat) : Int) + 5 = ((45 : Nat) : Int) from rfl) (fun _ => ?_) (fun q => absurd trivial q)
        exact reti_ok X hr hlk rfl (dk rfl) ⟨⟨_, rfl⟩, ⟨_, _, _, _, _, M1⟩, F1⟩ (Nat.le_of_ble_eq_true rfl) (Nat.le_of_ble_eq_true rfl)
  iterate 2 refine fst1_ok X (dk rfl) rfl ?_
  refine isSlot_ok X E mlX10_95 ⟨Nat.le_of_ble_eq_true rfl, Nat.le_of_ble_eq_true rfl⟩ ⟨Nat.le_of_ble_eq_true rfl, Nat.le_of_ble_eq_true rfl⟩ (Nat.le_of_ble_eq_true rfl) (dk rfl) (fun mid1b0 mid1h0 => ?_)
  cases mid1b0 with
  | false =>
    refine br_ok X (dk rfl) rfl (show ((5 : Nat) : Int) + 7 = ((12 : Nat) : Int) from rfl) (fun q => absurd q bI_f) (fun _ => ?_)
    refine fst1_ok X (dk rfl) rfl ?_
    refine br_ok X (dk rfl) rfl (show ((9 : Nat) : Int) + 4 = ((13 : Nat) : Int) from rfl) (fun _ => ?_) (fun q => absurd trivial q)
    exact mid1 true (fun z => by cases z)
  | true =>
    refine br_ok X (dk rfl) rfl (show ((5 : Nat) : Int) + 7 = ((12 : Nat) : Int) from rfl) (fun _ => ?_) (fun q => absurd bI_t q)
    refine fst1_ok X (dk rfl) rfl ?_
    exact mid1 false (fun _ => mid1h0 rfl)
set_option maxHeartbeats 4000000 in
theorem c_sizeAt (h : AH) (M : MD h o S A sl an a r kn th) (x1 x2 : Int32) : CT la D cA B0 pa yX10_sizeAt cX10_sizeAt 3 (some .int) (rmD 2 0 0) [.ref o, .int x1, .int x2] h (intR o S A kn h) := by
  refine CT_of (by decide +kernel) (Nat.le_of_ble_eq_true rfl) ?_
  intro p e s m args below meth c X E hr hlk hnm
  have dk : ∀ {pc : Nat} {q : Instr × Nat}, lkd DX10_sizeAt pc = some q → decode cX10_sizeAt pc = .ok q := lkd_ok DX10_sizeAt_ok
  have mid1 : ∀ t1 : Bool, (t1 = false → inN 6 x1) → WR p la e (rmD 2 0 0) s m args below meth c D cA B0 3 (intR o S A kn h) 13 (lv_args 0 [.ref o, .int x1, .int x2]) [.int (bI t1), .ref o] h 0 0 := by
    intro t1 ht1
    refine thr1_ok X E M ⟨Nat.le_of_ble_eq_true rfl, Nat.le_of_ble_eq_true rfl⟩ ⟨Nat.le_of_ble_eq_true rfl, Nat.le_of_ble_eq_true rfl⟩ (Nat.le_of_ble_eq_true rfl) (dk rfl) (fun h1 a1 r1 th1 M1 F1 => ?_)
    cases hb : t1 with
    | true =>
      refine br_ok X (dk rfl) rfl (show ((16 : Nat) : Int) + 7 = ((23 : Nat) : Int) from rfl) (fun q => absurd q bI_t) (fun _ => ?_)
      refine fst1_ok X (dk rfl) rfl ?_
      refine br_ok X (dk rfl) rfl (show ((20 : Nat) : Int) + 29 = ((49 : Nat) : Int) from rfl) (fun _ => ?_) (fun q => absurd trivial q)
      exact reti_ok X hr hlk rfl (dk rfl) ⟨⟨_, rfl⟩, ⟨_, _, _, _, _, M1⟩, F1⟩ (Nat.zero_le _) (Nat.zero_le _)
    | false =>
      refine br_ok X (dk rfl) rfl (show ((16 : Nat) : Int) + 7 = ((23 : Nat) : Int) from rfl) (fun _ => ?_) (fun q => absurd bI_f' q)
      obtain ⟨j1, hj1, rfl⟩ := ht1 hb
      obtain ⟨ss, s1, s2, s3⟩ := M1.slot
      obtain ⟨as, a1, a2, a3⟩ := M1.ans
      obtain ⟨b1, y1, e1, f1, g1, w1, n1⟩ := s3 j1 hj1
      have ly1 : (y1.map vI).length = y1.length := List.length_map _
      repeat refine fst1_ok X (dk rfl) rfl ?_
      refine callV_ok (ci := 12) (T := TX10) (N := 6) (av := [vI j1, .int x2]) (r := []) X E (c_isPlace h1 M1 hj1 x2) lkX10_isPlace mlX10_113 lmX10_isPlace lpX10_isPlace ⟨Nat.le_of_ble_eq_true rfl, Nat.le_of_ble_eq_true rfl⟩ ⟨Nat.le_of_ble_eq_true rfl, Nat.le_of_ble_eq_true rfl⟩ rfl M1.obj (Nat.le_of_ble_eq_true rfl) (dk rfl) ?_
      rintro v h2 ⟨⟨bp, rfl, hbp⟩, rfl⟩
      cases bp with
      | false =>
        refine br_ok X (dk rfl) rfl (show ((29 : Nat) : Int) + 18 = ((47 : Nat) : Int) from rfl) (fun _ => ?_) (fun q => absurd bI_f' q)
        refine fst1_ok X (dk rfl) rfl ?_
        exact reti_ok X hr hlk rfl (dk rfl) ⟨⟨_, rfl⟩, ⟨_, _, _, _, _, M1⟩, F1⟩ (Nat.le_of_ble_eq_true rfl) (Nat.le_of_ble_eq_true rfl)
      | true =>
        refine br_ok X (dk rfl) rfl (show ((29 : Nat) : Int) + 18 = ((47 : Nat) : Int) from rfl) (fun q => absurd q bI_t) (fun _ => ?_)
        obtain ⟨j2, hj2, rfl⟩ := hbp rfl y1 f1
        obtain ⟨k0, t1, t2, t3, t4⟩ := w1.at hj2
        repeat refine fst1_ok X (dk rfl) rfl ?_
        refine getf_ok X flX10_11 (dk rfl) M1.obj rfl ?_
        refine fst1_ok X (dk rfl) rfl ?_
        refine ldr_ok X (dk rfl) s2 e1 (by omega) ?_
        refine fst1_ok X (dk rfl) rfl ?_
        refine callS_ok (av := [.ref b1, vI j2]) (r := []) X E (c_end h2 g1 w1.lt (by omega) t1) lkX10_end mlX10_36 lsX10_end ⟨Nat.le_of_ble_eq_true rfl, Nat.le_of_ble_eq_true rfl⟩ ⟨Nat.le_of_ble_eq_true rfl, Nat.le_of_ble_eq_true rfl⟩ (Nat.le_of_ble_eq_true rfl) (dk rfl) ?_
        rintro v h3 ⟨rfl, rfl⟩
        repeat refine fst1_ok X (dk rfl) rfl ?_
        refine br_ok X (dk rfl) rfl (show ((44 : Nat) : Int) + 5 = ((49 : Nat) : Int) from rfl) (fun _ => ?_) (fun q => absurd trivial q)
        exact reti_ok X hr hlk rfl (dk rfl) ⟨⟨_, rfl⟩, ⟨_, _, _, _, _, M1⟩, F1⟩ (Nat.le_of_ble_eq_true rfl) (Nat.le_of_ble_eq_true rfl)
  iterate 2 refine fst1_ok X (dk rfl) rfl ?_
  refine isSlot_ok X E mlX10_95 ⟨Nat.le_of_ble_eq_true rfl, Nat.le_of_ble_eq_true rfl⟩ ⟨Nat.le_of_ble_eq_true rfl, Nat.le_of_ble_eq_true rfl⟩ (Nat.le_of_ble_eq_true rfl) (dk rfl) (fun mid1b0 mid1h0 => ?_)
  cases mid1b0 with
  | false =>
    refine br_ok X (dk rfl) rfl (show ((5 : Nat) : Int) + 7 = ((12 : Nat) : Int) from rfl) (fun q => absurd q bI_f) (fun _ => ?_)
    refine fst1_ok X (dk rfl) rfl ?_
    refine br_ok X (dk rfl) rfl (show ((9 : Nat) : Int) + 4 = ((13 : Nat) : Int) from rfl) (fun _ => ?_) (fun q => absurd trivial q)
    exact mid1 true (fun z => by cases z)
  | true =>
    refine br_ok X (dk rfl) rfl (show ((5 : Nat) : Int) + 7 = ((12 : Nat) : Int) from rfl) (fun _ => ?_) (fun q => absurd bI_t q)
    refine fst1_ok X (dk rfl) rfl ?_
    exact mid1 false (fun _ => mid1h0 rfl)
set_option maxHeartbeats 4000000 in
theorem c_count (h : AH) (M : MD h o S A sl an a r kn th) (x1 x2 : Int32) : CT la D cA B0 pa yX10_count cX10_count 3 (some .int) (rmD 2 0 0) [.ref o, .int x1, .int x2] h (intR o S A kn h) := by
  refine CT_of (by decide +kernel) (Nat.le_of_ble_eq_true rfl) ?_
  intro p e s m args below meth c X E hr hlk hnm
  have dk : ∀ {pc : Nat} {q : Instr × Nat}, lkd DX10_count pc = some q → decode cX10_count pc = .ok q := lkd_ok DX10_count_ok
  have mid2 : ∀ t1 t2 : Bool, (t1 = false → inN 6 x1) → (t2 = false → inN 8 x2) → WR p la e (rmD 2 0 0) s m args below meth c D cA B0 3 (intR o S A kn h) 25 (lv_args 0 [.ref o, .int x1, .int x2]) [.int (bI t2), .int (bI t1), .ref o] h 0 0 := by
    intro t1 t2 ht1 ht2
    refine thr2_ok X E M ⟨Nat.le_of_ble_eq_true rfl, Nat.le_of_ble_eq_true rfl⟩ ⟨Nat.le_of_ble_eq_true rfl, Nat.le_of_ble_eq_true rfl⟩ (Nat.le_of_ble_eq_true rfl) (dk rfl) (fun h1 a1 r1 th1 M1 F1 => ?_)
    cases hb : (t1 || t2) with
    | true =>
      refine br_ok X (dk rfl) rfl (show ((28 : Nat) : Int) + 7 = ((35 : Nat) : Int) from rfl) (fun q => absurd q bI_t) (fun _ => ?_)
      refine fst1_ok X (dk rfl) rfl ?_
      refine br_ok X (dk rfl) rfl (show ((32 : Nat) : Int) + 13 = ((45 : Nat) : Int) from rfl) (fun _ => ?_) (fun q => absurd trivial q)
      exact reti_ok X hr hlk rfl (dk rfl) ⟨⟨_, rfl⟩, ⟨_, _, _, _, _, M1⟩, F1⟩ (Nat.zero_le _) (Nat.zero_le _)
    | false =>
      refine br_ok X (dk rfl) rfl (show ((28 : Nat) : Int) + 7 = ((35 : Nat) : Int) from rfl) (fun _ => ?_) (fun q => absurd bI_f' q)
      obtain ⟨hb1, hb2⟩ := Bool.or_eq_false_iff.mp hb
      obtain ⟨j1, hj1, rfl⟩ := ht1 hb1
      obtain ⟨j2, hj2, rfl⟩ := ht2 hb2
      obtain ⟨ss, s1, s2, s3⟩ := M1.slot
      obtain ⟨as, a1, a2, a3⟩ := M1.ans
      obtain ⟨b1, y1, e1, f1, g1, w1, n1⟩ := s3 j1 hj1
      have ly1 : (y1.map vI).length = y1.length := List.length_map _
      repeat refine fst1_ok X (dk rfl) rfl ?_
      refine getf_ok X flX10_11 (dk rfl) M1.obj rfl ?_
      refine fst1_ok X (dk rfl) rfl ?_
      refine ldr_ok X (dk rfl) s2 e1 (by omega) ?_
      refine fst1_ok X (dk rfl) rfl ?_
      refine callS_ok (av := [.ref b1, vI j2]) (r := []) X E (c_often h1 (nI j2) g1 (by omega)) lkX10_often mlX10_117 lsX10_often ⟨Nat.le_of_ble_eq_true rfl, Nat.le_of_ble_eq_true rfl⟩ ⟨Nat.le_of_ble_eq_true rfl, Nat.le_of_ble_eq_true rfl⟩ (Nat.le_of_ble_eq_true rfl) (dk rfl) ?_
      rintro v h2 ⟨⟨w0, rfl⟩, rfl⟩
      exact reti_ok X hr hlk rfl (dk rfl) ⟨⟨_, rfl⟩, ⟨_, _, _, _, _, M1⟩, F1⟩ (Nat.le_of_ble_eq_true rfl) (Nat.le_of_ble_eq_true rfl)
  have mid1 : ∀ t1 : Bool, (t1 = false → inN 6 x1) → WR p la e (rmD 2 0 0) s m args below meth c D cA B0 3 (intR o S A kn h) 13 (lv_args 0 [.ref o, .int x1, .int x2]) [.int (bI t1), .ref o] h 0 0 := by
    intro t1 ht1
    have mid2 := fun t2 => mid2 t1 t2 ht1
    iterate 1 refine fst1_ok X (dk rfl) rfl ?_
    refine isName_ok X E mlX10_99 ⟨Nat.le_of_ble_eq_true rfl, Nat.le_of_ble_eq_true rfl⟩ ⟨Nat.le_of_ble_eq_true rfl, Nat.le_of_ble_eq_true rfl⟩ (Nat.le_of_ble_eq_true rfl) (dk rfl) (fun mid2b0 mid2h0 => ?_)
    cases mid2b0 with
    | false =>
      refine br_ok X (dk rfl) rfl (show ((17 : Nat) : Int) + 7 = ((24 : Nat) : Int) from rfl) (fun q => absurd q bI_f) (fun _ => ?_)
      refine fst1_ok X (dk rfl) rfl ?_
      refine br_ok X (dk rfl) rfl (show ((21 : Nat) : Int) + 4 = ((25 : Nat) : Int) from rfl) (fun _ => ?_) (fun q => absurd trivial q)
      exact mid2 true (fun z => by cases z)
    | true =>
      refine br_ok X (dk rfl) rfl (show ((17 : Nat) : Int) + 7 = ((24 : Nat) : Int) from rfl) (fun _ => ?_) (fun q => absurd bI_t q)
      refine fst1_ok X (dk rfl) rfl ?_
      exact mid2 false (fun _ => mid2h0 rfl)
  iterate 2 refine fst1_ok X (dk rfl) rfl ?_
  refine isSlot_ok X E mlX10_95 ⟨Nat.le_of_ble_eq_true rfl, Nat.le_of_ble_eq_true rfl⟩ ⟨Nat.le_of_ble_eq_true rfl, Nat.le_of_ble_eq_true rfl⟩ (Nat.le_of_ble_eq_true rfl) (dk rfl) (fun mid1b0 mid1h0 => ?_)
  cases mid1b0 with
  | false =>
    refine br_ok X (dk rfl) rfl (show ((5 : Nat) : Int) + 7 = ((12 : Nat) : Int) from rfl) (fun q => absurd q bI_f) (fun _ => ?_)
    refine fst1_ok X (dk rfl) rfl ?_
    refine br_ok X (dk rfl) rfl (show ((9 : Nat) : Int) + 4 = ((13 : Nat) : Int) from rfl) (fun _ => ?_) (fun q => absurd trivial q)
    exact mid1 true (fun z => by cases z)
  | true =>
    refine br_ok X (dk rfl) rfl (show ((5 : Nat) : Int) + 7 = ((12 : Nat) : Int) from rfl) (fun _ => ?_) (fun q => absurd bI_t q)
    refine fst1_ok X (dk rfl) rfl ?_
    exact mid1 false (fun _ => mid1h0 rfl)
set_option maxHeartbeats 4000000 in
theorem c_names (h : AH) (M : MD h o S A sl an a r kn th) (x1 : Int32) : CT la D cA B0 pa yX10_names cX10_names 2 (some .int) (rmD 2 0 0) [.ref o, .int x1] h (intR o S A kn h) := by
  refine CT_of (by decide +kernel) (Nat.le_of_ble_eq_true rfl) ?_
  intro p e s m args below meth c X E hr hlk hnm
  have dk : ∀ {pc : Nat} {q : Instr × Nat}, lkd DX10_names pc = some q → decode cX10_names pc = .ok q := lkd_ok DX10_names_ok
  have mid1 : ∀ t1 : Bool, (t1 = false → inN 6 x1) → WR p la e (rmD 2 0 0) s m args below meth c D cA B0 2 (intR o S A kn h) 13 (lv_args 0 [.ref o, .int x1]) [.int (bI t1), .ref o] h 0 0 := by
    intro t1 ht1
    refine thr1_ok X E M ⟨Nat.le_of_ble_eq_true rfl, Nat.le_of_ble_eq_true rfl⟩ ⟨Nat.le_of_ble_eq_true rfl, Nat.le_of_ble_eq_true rfl⟩ (Nat.le_of_ble_eq_true rfl) (dk rfl) (fun h1 a1 r1 th1 M1 F1 => ?_)
    cases hb : t1 with
    | true =>
      refine br_ok X (dk rfl) rfl (show ((16 : Nat) : Int) + 7 = ((23 : Nat) : Int) from rfl) (fun q => absurd q bI_t) (fun _ => ?_)
      refine fst1_ok X (dk rfl) rfl ?_
      refine br_ok X (dk rfl) rfl (show ((20 : Nat) : Int) + 12 = ((32 : Nat) : Int) from rfl) (fun _ => ?_) (fun q => absurd trivial q)
      exact reti_ok X hr hlk rfl (dk rfl) ⟨⟨_, rfl⟩, ⟨_, _, _, _, _, M1⟩, F1⟩ (Nat.zero_le _) (Nat.zero_le _)
    | false =>
      refine br_ok X (dk rfl) rfl (show ((16 : Nat) : Int) + 7 = ((23 : Nat) : Int) from rfl) (fun _ => ?_) (fun q => absurd bI_f' q)
      obtain ⟨j1, hj1, rfl⟩ := ht1 hb
      obtain ⟨ss, s1, s2, s3⟩ := M1.slot
      obtain ⟨as, a1, a2, a3⟩ := M1.ans
      obtain ⟨b1, y1, e1, f1, g1, w1, n1⟩ := s3 j1 hj1
      have ly1 : (y1.map vI).length = y1.length := List.length_map _
      repeat refine fst1_ok X (dk rfl) rfl ?_
      refine getf_ok X flX10_11 (dk rfl) M1.obj rfl ?_
      refine fst1_ok X (dk rfl) rfl ?_
      refine ldr_ok X (dk rfl) s2 e1 (by omega) ?_
      refine callS_ok (av := [.ref b1]) (r := []) X E (c_namesOf h1 g1 (by omega) w1.lt) lkX10_namesOf mlX10_124 lsX10_namesOf ⟨Nat.le_of_ble_eq_true rfl, Nat.le_of_ble_eq_true rfl⟩ ⟨Nat.le_of_ble_eq_true rfl, Nat.le_of_ble_eq_true rfl⟩ (Nat.le_of_ble_eq_true rfl) (dk rfl) ?_
      rintro v h2 ⟨rfl, rfl⟩
      exact reti_ok X hr hlk rfl (dk rfl) ⟨⟨_, rfl⟩, ⟨_, _, _, _, _, M1⟩, F1⟩ (Nat.le_of_ble_eq_true rfl) (Nat.le_of_ble_eq_true rfl)
  iterate 2 refine fst1_ok X (dk rfl) rfl ?_
  refine isSlot_ok X E mlX10_95 ⟨Nat.le_of_ble_eq_true rfl, Nat.le_of_ble_eq_true rfl⟩ ⟨Nat.le_of_ble_eq_true rfl, Nat.le_of_ble_eq_true rfl⟩ (Nat.le_of_ble_eq_true rfl) (dk rfl) (fun mid1b0 mid1h0 => ?_)
  cases mid1b0 with
  | false =>
    refine br_ok X (dk rfl) rfl (show ((5 : Nat) : Int) + 7 = ((12 : Nat) : Int) from rfl) (fun q => absurd q bI_f) (fun _ => ?_)
    refine fst1_ok X (dk rfl) rfl ?_
    refine br_ok X (dk rfl) rfl (show ((9 : Nat) : Int) + 4 = ((13 : Nat) : Int) from rfl) (fun _ => ?_) (fun q => absurd trivial q)
    exact mid1 true (fun z => by cases z)
  | true =>
    refine br_ok X (dk rfl) rfl (show ((5 : Nat) : Int) + 7 = ((12 : Nat) : Int) from rfl) (fun _ => ?_) (fun q => absurd bI_t q)
    refine fst1_ok X (dk rfl) rfl ?_
    exact mid1 false (fun _ => mid1h0 rfl)
set_option maxHeartbeats 4000000 in
theorem c_differ (h : AH) (M : MD h o S A sl an a r kn th) (x1 x2 : Int32) : CT la D cA B0 pa yX10_differ cX10_differ 3 (some .int) (rmD 2 0 0) [.ref o, .int x1, .int x2] h (intR o S A kn h) := by
  refine CT_of (by decide +kernel) (Nat.le_of_ble_eq_true rfl) ?_
  intro p e s m args below meth c X E hr hlk hnm
  have dk : ∀ {pc : Nat} {q : Instr × Nat}, lkd DX10_differ pc = some q → decode cX10_differ pc = .ok q := lkd_ok DX10_differ_ok
  have mid1 : ∀ t1 : Bool, (t1 = false → inN 6 x1 ∧ inN 6 x2) → WR p la e (rmD 2 0 0) s m args below meth c D cA B0 3 (intR o S A kn h) 20 (lv_args 0 [.ref o, .int x1, .int x2]) [.int (bI t1), .ref o] h 0 0 := by
    intro t1 ht1
    refine thr1_ok X E M ⟨Nat.le_of_ble_eq_true rfl, Nat.le_of_ble_eq_true rfl⟩ ⟨Nat.le_of_ble_eq_true rfl, Nat.le_of_ble_eq_true rfl⟩ (Nat.le_of_ble_eq_true rfl) (dk rfl) (fun h1 a1 r1 th1 M1 F1 => ?_)
    cases hb : t1 with
    | true =>
      refine br_ok X (dk rfl) rfl (show ((23 : Nat) : Int) + 7 = ((30 : Nat) : Int) from rfl) (fun q => absurd q bI_t) (fun _ => ?_)
      refine fst1_ok X (dk rfl) rfl ?_
      refine br_ok X (dk rfl) rfl (show ((27 : Nat) : Int) + 18 = ((45 : Nat) : Int) from rfl) (fun _ => ?_) (fun q => absurd trivial q)
      exact reti_ok X hr hlk rfl (dk rfl) ⟨⟨_, rfl⟩, ⟨_, _, _, _, _, M1⟩, F1⟩ (Nat.zero_le _) (Nat.zero_le _)
    | false =>
      refine br_ok X (dk rfl) rfl (show ((23 : Nat) : Int) + 7 = ((30 : Nat) : Int) from rfl) (fun _ => ?_) (fun q => absurd bI_f' q)
      obtain ⟨⟨j1, hj1, rfl⟩, ⟨j2, hj2, rfl⟩⟩ := ht1 hb
      obtain ⟨ss, s1, s2, s3⟩ := M1.slot
      obtain ⟨as, a1, a2, a3⟩ := M1.ans
      obtain ⟨b1, y1, e1, f1, g1, w1, n1⟩ := s3 j1 hj1
      have ly1 : (y1.map vI).length = y1.length := List.length_map _
      obtain ⟨b2, y2, e2, f2, g2, w2, n2⟩ := s3 j2 hj2
      have ly2 : (y2.map vI).length = y2.length := List.length_map _
      repeat refine fst1_ok X (dk rfl) rfl ?_
      refine getf_ok X flX10_11 (dk rfl) M1.obj rfl ?_
      refine fst1_ok X (dk rfl) rfl ?_
      refine ldr_ok X (dk rfl) s2 e1 (by omega) ?_
      repeat refine fst1_ok X (dk rfl) rfl ?_
      refine getf_ok X flX10_11 (dk rfl) M1.obj rfl ?_
      refine fst1_ok X (dk rfl) rfl ?_
      refine ldr_ok X (dk rfl) s2 e2 (by omega) ?_
      refine callS_ok (av := [.ref b1, .ref b2]) (r := []) X E (c_first h1 g1 g2 (by omega) (by omega) w1.lt w2.lt) lkX10_first mlX10_44 lsX10_first ⟨Nat.le_of_ble_eq_true rfl, Nat.le_of_ble_eq_true rfl⟩ ⟨Nat.le_of_ble_eq_true rfl, Nat.le_of_ble_eq_true rfl⟩ (Nat.le_of_ble_eq_true rfl) (dk rfl) ?_
      rintro v h2 ⟨rfl, rfl⟩
      cases hd : diffAt y1 y2 with
      | none =>
        exact reti_ok X hr hlk rfl (dk rfl) ⟨⟨_, rfl⟩, ⟨_, _, _, _, _, M1⟩, F1⟩ (Nat.le_of_ble_eq_true rfl) (Nat.le_of_ble_eq_true rfl)
      | some d =>
        exact reti_ok X hr hlk rfl (dk rfl) ⟨⟨_, rfl⟩, ⟨_, _, _, _, _, M1⟩, F1⟩ (Nat.le_of_ble_eq_true rfl) (Nat.le_of_ble_eq_true rfl)
  iterate 2 refine fst1_ok X (dk rfl) rfl ?_
  refine isSlot_ok X E mlX10_95 ⟨Nat.le_of_ble_eq_true rfl, Nat.le_of_ble_eq_true rfl⟩ ⟨Nat.le_of_ble_eq_true rfl, Nat.le_of_ble_eq_true rfl⟩ (Nat.le_of_ble_eq_true rfl) (dk rfl) (fun mid1b0 mid1h0 => ?_)
  cases mid1b0 with
  | false =>
    refine br_ok X (dk rfl) rfl (show ((5 : Nat) : Int) + 10 = ((15 : Nat) : Int) from rfl) (fun _ => ?_) (fun q => absurd bI_f' q)
    refine fst1_ok X (dk rfl) rfl ?_
    refine br_ok X (dk rfl) rfl (show ((16 : Nat) : Int) + 4 = ((20 : Nat) : Int) from rfl) (fun _ => ?_) (fun q => absurd trivial q)
    exact mid1 true (fun z => by cases z)
  | true =>
    refine br_ok X (dk rfl) rfl (show ((5 : Nat) : Int) + 10 = ((15 : Nat) : Int) from rfl) (fun q => absurd q bI_t) (fun _ => ?_)
    iterate 1 refine fst1_ok X (dk rfl) rfl ?_
    refine isSlot_ok X E mlX10_95 ⟨Nat.le_of_ble_eq_true rfl, Nat.le_of_ble_eq_true rfl⟩ ⟨Nat.le_of_ble_eq_true rfl, Nat.le_of_ble_eq_true rfl⟩ (Nat.le_of_ble_eq_true rfl) (dk rfl) (fun mid1b1 mid1h1 => ?_)
    cases mid1b1 with
    | false =>
      refine br_ok X (dk rfl) rfl (show ((12 : Nat) : Int) + 7 = ((19 : Nat) : Int) from rfl) (fun q => absurd q bI_f) (fun _ => ?_)
      refine fst1_ok X (dk rfl) rfl ?_
      refine br_ok X (dk rfl) rfl (show ((16 : Nat) : Int) + 4 = ((20 : Nat) : Int) from rfl) (fun _ => ?_) (fun q => absurd trivial q)
      exact mid1 true (fun z => by cases z)
    | true =>
      refine br_ok X (dk rfl) rfl (show ((12 : Nat) : Int) + 7 = ((19 : Nat) : Int) from rfl) (fun _ => ?_) (fun q => absurd bI_t q)
      refine fst1_ok X (dk rfl) rfl ?_
      exact mid1 false (fun _ => ⟨mid1h0 rfl, mid1h1 rfl⟩)
set_option maxHeartbeats 4000000 in
theorem c_moved (h : AH) (M : MD h o S A sl an a r kn th) (x1 : Int32) : CT la D cA B0 pa yX10_moved cX10_moved 2 (some .int) (rmD 4 8 8) [.ref o, .int x1] h (intR o S A kn h) := by
  refine CT_of (by decide +kernel) (Nat.le_of_ble_eq_true rfl) ?_
  intro p e s m args below meth c X E hr hlk hnm
  have dk : ∀ {pc : Nat} {q : Instr × Nat}, lkd DX10_moved pc = some q → decode cX10_moved pc = .ok q := lkd_ok DX10_moved_ok
  have mid1 : ∀ t1 : Bool, (t1 = false → inN 3 x1) → WR p la e (rmD 4 8 8) s m args below meth c D cA B0 2 (intR o S A kn h) 13 (lv_args 0 [.ref o, .int x1]) [.int (bI t1), .ref o] h 0 0 := by
    intro t1 ht1
    refine thr1_ok X E M ⟨Nat.le_of_ble_eq_true rfl, Nat.le_of_ble_eq_true rfl⟩ ⟨Nat.le_of_ble_eq_true rfl, Nat.le_of_ble_eq_true rfl⟩ (Nat.le_of_ble_eq_true rfl) (dk rfl) (fun h1 a1 r1 th1 M1 F1 => ?_)
    cases hb : t1 with
    | true =>
      refine br_ok X (dk rfl) rfl (show ((16 : Nat) : Int) + 7 = ((23 : Nat) : Int) from rfl) (fun q => absurd q bI_t) (fun _ => ?_)
      refine fst1_ok X (dk rfl) rfl ?_
      refine br_ok X (dk rfl) rfl (show ((20 : Nat) : Int) + 12 = ((32 : Nat) : Int) from rfl) (fun _ => ?_) (fun q => absurd trivial q)
      exact reti_ok X hr hlk rfl (dk rfl) ⟨⟨_, rfl⟩, ⟨_, _, _, _, _, M1⟩, F1⟩ (Nat.zero_le _) (Nat.zero_le _)
    | false =>
      refine br_ok X (dk rfl) rfl (show ((16 : Nat) : Int) + 7 = ((23 : Nat) : Int) from rfl) (fun _ => ?_) (fun q => absurd bI_f' q)
      obtain ⟨j1, hj1, rfl⟩ := ht1 hb
      obtain ⟨ss, s1, s2, s3⟩ := M1.slot
      obtain ⟨as, a1, a2, a3⟩ := M1.ans
      obtain ⟨b1, y1, e1, f1, g1, w1, n1⟩ := a3 j1 hj1
      repeat refine fst1_ok X (dk rfl) rfl ?_
      refine getf_ok X flX10_16 (dk rfl) M1.obj rfl ?_
      refine fst1_ok X (dk rfl) rfl ?_
      refine lda_ok X (dk rfl) a2 e1 (by omega) ?_
      refine callS_ok (av := [.ref b1]) (r := []) X E (c_movedBy h1 g1 w1) lkX10_movedBy mlX10_141 lsX10_movedBy ⟨Nat.le_of_ble_eq_true rfl, Nat.le_of_ble_eq_true rfl⟩ ⟨Nat.le_of_ble_eq_true rfl, Nat.le_of_ble_eq_true rfl⟩ (Nat.le_of_ble_eq_true rfl) (dk rfl) ?_
      rintro v h2 ⟨rfl, E1⟩
      exact reti_ok X hr hlk rfl (dk rfl) ⟨⟨_, rfl⟩, ⟨_, _, _, _, _, (M1.ext E1)⟩, F1.trans (Fr.ext E1)⟩ (Nat.le_of_ble_eq_true rfl) (Nat.le_of_ble_eq_true rfl)
  iterate 2 refine fst1_ok X (dk rfl) rfl ?_
  refine isAnswer_ok X E mlX10_135 ⟨Nat.le_of_ble_eq_true rfl, Nat.le_of_ble_eq_true rfl⟩ ⟨Nat.le_of_ble_eq_true rfl, Nat.le_of_ble_eq_true rfl⟩ (Nat.le_of_ble_eq_true rfl) (dk rfl) (fun mid1b0 mid1h0 => ?_)
  cases mid1b0 with
  | false =>
    refine br_ok X (dk rfl) rfl (show ((5 : Nat) : Int) + 7 = ((12 : Nat) : Int) from rfl) (fun q => absurd q bI_f) (fun _ => ?_)
    refine fst1_ok X (dk rfl) rfl ?_
    refine br_ok X (dk rfl) rfl (show ((9 : Nat) : Int) + 4 = ((13 : Nat) : Int) from rfl) (fun _ => ?_) (fun q => absurd trivial q)
    exact mid1 true (fun z => by cases z)
  | true =>
    refine br_ok X (dk rfl) rfl (show ((5 : Nat) : Int) + 7 = ((12 : Nat) : Int) from rfl) (fun _ => ?_) (fun q => absurd bI_t q)
    refine fst1_ok X (dk rfl) rfl ?_
    exact mid1 false (fun _ => mid1h0 rfl)
set_option maxHeartbeats 4000000 in
theorem c_unlike (h : AH) (M : MD h o S A sl an a r kn th) (x1 x2 : Int32) : CT la D cA B0 pa yX10_unlike cX10_unlike 3 (some .int) (rmD 4 0 0) [.ref o, .int x1, .int x2] h (intR o S A kn h) := by
  refine CT_of (by decide +kernel) (Nat.le_of_ble_eq_true rfl) ?_
  intro p e s m args below meth c X E hr hlk hnm
  have dk : ∀ {pc : Nat} {q : Instr × Nat}, lkd DX10_unlike pc = some q → decode cX10_unlike pc = .ok q := lkd_ok DX10_unlike_ok
  have mid1 : ∀ t1 : Bool, (t1 = false → inN 3 x1 ∧ inN 3 x2) → WR p la e (rmD 4 0 0) s m args below meth c D cA B0 3 (intR o S A kn h) 20 (lv_args 0 [.ref o, .int x1, .int x2]) [.int (bI t1), .ref o] h 0 0 := by
    intro t1 ht1
    refine thr1_ok X E M ⟨Nat.le_of_ble_eq_true rfl, Nat.le_of_ble_eq_true rfl⟩ ⟨Nat.le_of_ble_eq_true rfl, Nat.le_of_ble_eq_true rfl⟩ (Nat.le_of_ble_eq_true rfl) (dk rfl) (fun h1 a1 r1 th1 M1 F1 => ?_)
    cases hb : t1 with
    | true =>
      refine br_ok X (dk rfl) rfl (show ((23 : Nat) : Int) + 7 = ((30 : Nat) : Int) from rfl) (fun q => absurd q bI_t) (fun _ => ?_)
      refine fst1_ok X (dk rfl) rfl ?_
      refine br_ok X (dk rfl) rfl (show ((27 : Nat) : Int) + 18 = ((45 : Nat) : Int) from rfl) (fun _ => ?_) (fun q => absurd trivial q)
      exact reti_ok X hr hlk rfl (dk rfl) ⟨⟨_, rfl⟩, ⟨_, _, _, _, _, M1⟩, F1⟩ (Nat.zero_le _) (Nat.zero_le _)
    | false =>
      refine br_ok X (dk rfl) rfl (show ((23 : Nat) : Int) + 7 = ((30 : Nat) : Int) from rfl) (fun _ => ?_) (fun q => absurd bI_f' q)
      obtain ⟨⟨j1, hj1, rfl⟩, ⟨j2, hj2, rfl⟩⟩ := ht1 hb
      obtain ⟨ss, s1, s2, s3⟩ := M1.slot
      obtain ⟨as, a1, a2, a3⟩ := M1.ans
      obtain ⟨b1, y1, e1, f1, g1, w1, n1⟩ := a3 j1 hj1
      obtain ⟨b2, y2, e2, f2, g2, w2, n2⟩ := a3 j2 hj2
      repeat refine fst1_ok X (dk rfl) rfl ?_
      refine getf_ok X flX10_16 (dk rfl) M1.obj rfl ?_
      refine fst1_ok X (dk rfl) rfl ?_
      refine lda_ok X (dk rfl) a2 e1 (by omega) ?_
      repeat refine fst1_ok X (dk rfl) rfl ?_
      refine getf_ok X flX10_16 (dk rfl) M1.obj rfl ?_
      refine fst1_ok X (dk rfl) rfl ?_
      refine lda_ok X (dk rfl) a2 e2 (by omega) ?_
      refine callS_ok (av := [.ref b1, .ref b2]) (r := []) X E (c_unlikeOf h1 g1 g2 w1.aw w2.aw) lkX10_unlikeOf mlX10_214 lsX10_unlikeOf ⟨Nat.le_of_ble_eq_true rfl, Nat.le_of_ble_eq_true rfl⟩ ⟨Nat.le_of_ble_eq_true rfl, Nat.le_of_ble_eq_true rfl⟩ (Nat.le_of_ble_eq_true rfl) (dk rfl) ?_
      rintro v h2 ⟨⟨d, rfl, -, -⟩, rfl⟩
      cases d with
      | none =>
        exact reti_ok X hr hlk rfl (dk rfl) ⟨⟨_, rfl⟩, ⟨_, _, _, _, _, M1⟩, F1⟩ (Nat.le_of_ble_eq_true rfl) (Nat.le_of_ble_eq_true rfl)
      | some d =>
        exact reti_ok X hr hlk rfl (dk rfl) ⟨⟨_, rfl⟩, ⟨_, _, _, _, _, M1⟩, F1⟩ (Nat.le_of_ble_eq_true rfl) (Nat.le_of_ble_eq_true rfl)
  iterate 2 refine fst1_ok X (dk rfl) rfl ?_
  refine isAnswer_ok X E mlX10_135 ⟨Nat.le_of_ble_eq_true rfl, Nat.le_of_ble_eq_true rfl⟩ ⟨Nat.le_of_ble_eq_true rfl, Nat.le_of_ble_eq_true rfl⟩ (Nat.le_of_ble_eq_true rfl) (dk rfl) (fun mid1b0 mid1h0 => ?_)
  cases mid1b0 with
  | false =>
    refine br_ok X (dk rfl) rfl (show ((5 : Nat) : Int) + 10 = ((15 : Nat) : Int) from rfl) (fun _ => ?_) (fun q => absurd bI_f' q)
    refine fst1_ok X (dk rfl) rfl ?_
    refine br_ok X (dk rfl) rfl (show ((16 : Nat) : Int) + 4 = ((20 : Nat) : Int) from rfl) (fun _ => ?_) (fun q => absurd trivial q)
    exact mid1 true (fun z => by cases z)
  | true =>
    refine br_ok X (dk rfl) rfl (show ((5 : Nat) : Int) + 10 = ((15 : Nat) : Int) from rfl) (fun q => absurd q bI_t) (fun _ => ?_)
    iterate 1 refine fst1_ok X (dk rfl) rfl ?_
    refine isAnswer_ok X E mlX10_135 ⟨Nat.le_of_ble_eq_true rfl, Nat.le_of_ble_eq_true rfl⟩ ⟨Nat.le_of_ble_eq_true rfl, Nat.le_of_ble_eq_true rfl⟩ (Nat.le_of_ble_eq_true rfl) (dk rfl) (fun mid1b1 mid1h1 => ?_)
    cases mid1b1 with
    | false =>
      refine br_ok X (dk rfl) rfl (show ((12 : Nat) : Int) + 7 = ((19 : Nat) : Int) from rfl) (fun q => absurd q bI_f) (fun _ => ?_)
      refine fst1_ok X (dk rfl) rfl ?_
      refine br_ok X (dk rfl) rfl (show ((16 : Nat) : Int) + 4 = ((20 : Nat) : Int) from rfl) (fun _ => ?_) (fun q => absurd trivial q)
      exact mid1 true (fun z => by cases z)
    | true =>
      refine br_ok X (dk rfl) rfl (show ((12 : Nat) : Int) + 7 = ((19 : Nat) : Int) from rfl) (fun _ => ?_) (fun q => absurd bI_t q)
      refine fst1_ok X (dk rfl) rfl ?_
      exact mid1 false (fun _ => ⟨mid1h0 rfl, mid1h1 rfl⟩)
set_option maxHeartbeats 4000000 in
theorem c_find (h : AH) (M : MD h o S A sl an a r kn th) (x1 x2 : Int32) : CT la D cA B0 pa yX10_find cX10_find 4 (some .int) (rmD 3 0 0) [.ref o, .int x1, .int x2] h (intR o S A kn h) := by
  refine CT_of (by decide +kernel) (Nat.le_of_ble_eq_true rfl) ?_
  intro p e s m args below meth c X E hr hlk hnm
  have dk : ∀ {pc : Nat} {q : Instr × Nat}, lkd DX10_find pc = some q → decode cX10_find pc = .ok q := lkd_ok DX10_find_ok
  have mid1 : ∀ t1 : Bool, (t1 = false → inN 6 x1 ∧ inN 6 x2) → WR p la e (rmD 3 0 0) s m args below meth c D cA B0 4 (intR o S A kn h) 20 (lv_args 0 [.ref o, .int x1, .int x2]) [.int (bI t1), .ref o] h 0 0 := by
    intro t1 ht1
    refine thr1_ok X E M ⟨Nat.le_of_ble_eq_true rfl, Nat.le_of_ble_eq_true rfl⟩ ⟨Nat.le_of_ble_eq_true rfl, Nat.le_of_ble_eq_true rfl⟩ (Nat.le_of_ble_eq_true rfl) (dk rfl) (fun h1 a1 r1 th1 M1 F1 => ?_)
    cases hb : t1 with
    | true =>
      refine br_ok X (dk rfl) rfl (show ((23 : Nat) : Int) + 5 = ((28 : Nat) : Int) from rfl) (fun q => absurd q bI_t) (fun _ => ?_)
      refine fst1_ok X (dk rfl) rfl ?_
      exact reti_ok X hr hlk rfl (dk rfl) ⟨⟨_, rfl⟩, ⟨_, _, _, _, _, M1⟩, F1⟩ (Nat.zero_le _) (Nat.zero_le _)
    | false =>
      refine br_ok X (dk rfl) rfl (show ((23 : Nat) : Int) + 5 = ((28 : Nat) : Int) from rfl) (fun _ => ?_) (fun q => absurd bI_f' q)
      obtain ⟨⟨j1, hj1, rfl⟩, ⟨j2, hj2, rfl⟩⟩ := ht1 hb
      obtain ⟨ss, s1, s2, s3⟩ := M1.slot
      obtain ⟨as, a1, a2, a3⟩ := M1.ans
      obtain ⟨b1, y1, e1, f1, g1, w1, n1⟩ := s3 j1 hj1
      have ly1 : (y1.map vI).length = y1.length := List.length_map _
      obtain ⟨b2, y2, e2, f2, g2, w2, n2⟩ := s3 j2 hj2
      have ly2 : (y2.map vI).length = y2.length := List.length_map _
      have loop : ∀ (d i : Nat), d = y1.length - i → i ≤ y1.length → ∀ (l : List (Nat × Value)), lsel l [3, 2, 1, 0] = [(3, vI i), (2, vI j2), (1, vI j1), (0, .ref o)] → WR p la e (rmD 3 0 0) s m args below meth c D cA B0 4 (intR o S A kn h) 30 l [] h1 0 0 := by
        intro d
        induction d with
        | zero =>
          intro i hd hi l hl
          have hi2 : i = y1.length := by omega
          subst hi2
          refine WS.sel [3, 2, 1, 0] hl ?_
          repeat refine fst1_ok X (dk rfl) rfl ?_
          refine getf_ok X flX10_11 (dk rfl) M1.obj rfl ?_
          refine fst1_ok X (dk rfl) rfl ?_
          refine ldr_ok X (dk rfl) s2 e1 (by omega) ?_
          refine alen_ok X (by decide) (dk rfl) g1 ?_
          rw [ly1]
          refine br_ok X (dk rfl) rfl (show ((38 : Nat) : Int) + 31 = ((69 : Nat) : Int) from rfl) (fun _ => ?_) (fun c1 => absurd (Int32.le_refl _) c1)
          repeat refine fst1_ok X (dk rfl) rfl ?_
          exact reti_ok X hr hlk rfl (dk rfl) ⟨⟨_, rfl⟩, ⟨_, _, _, _, _, M1⟩, F1⟩ (Nat.le_of_ble_eq_true rfl) (Nat.le_of_ble_eq_true rfl)
        | succ d ih =>
          intro i hd hi l hl
          obtain ⟨k0, t1, t2, t3, t4⟩ := w1.at (j := i) (by omega)
          have f2 : Value.int (nI i + Int32.ofInt 1) = vI (i + 1) := congrArg Value.int (by rw [nI_1', nI_add])
          refine WS.sel [3, 2, 1, 0] hl ?_
          repeat refine fst1_ok X (dk rfl) rfl ?_
          refine getf_ok X flX10_11 (dk rfl) M1.obj rfl ?_
          refine fst1_ok X (dk rfl) rfl ?_
          refine ldr_ok X (dk rfl) s2 e1 (by omega) ?_
          refine alen_ok X (by decide) (dk rfl) g1 ?_
          rw [ly1]
          refine br_ok X (dk rfl) rfl (show ((38 : Nat) : Int) + 31 = ((69 : Nat) : Int) from rfl) (fun c1 => absurd c1 (nI_ge (by omega) (by omega))) (fun _ => ?_)
          repeat refine fst1_ok X (dk rfl) rfl ?_
          refine getf_ok X flX10_11 (dk rfl) M1.obj rfl ?_
          refine fst1_ok X (dk rfl) rfl ?_
          refine ldr_ok X (dk rfl) s2 e1 (by omega) ?_
          repeat refine fst1_ok X (dk rfl) rfl ?_
          refine getf_ok X flX10_11 (dk rfl) M1.obj rfl ?_
          refine fst1_ok X (dk rfl) rfl ?_
          refine ldr_ok X (dk rfl) s2 e2 (by omega) ?_
          refine fst1_ok X (dk rfl) rfl ?_
          refine callS_ok (av := [.ref b1, vI i, .ref b2, vI 0]) (r := []) X E (c_isAt h1 g1 g2 (by omega) (by omega) w1.lt w2.lt t1 (by rw [List.drop_zero]; exact w2.1)) lkX10_isAt mlX10_70 lsX10_isAt ⟨Nat.le_of_ble_eq_true rfl, Nat.le_of_ble_eq_true rfl⟩ ⟨Nat.le_of_ble_eq_true rfl, Nat.le_of_ble_eq_true rfl⟩ (Nat.le_of_ble_eq_true rfl) (dk rfl) ?_
          rintro v h2 ⟨rfl, rfl⟩
          rw [ite_bI]
          cases hz : decide ((y1.drop i).take k0 = (y2.drop 0).take y2.length) with
          | false =>
            refine br_ok X (dk rfl) rfl (show ((58 : Nat) : Int) + 5 = ((63 : Nat) : Int) from rfl) (fun _ => ?_) (fun q => absurd bI_f' q)
            repeat refine fst1_ok X (dk rfl) rfl ?_
            refine br_ok X (dk rfl) rfl (show ((66 : Nat) : Int) + (-36) = ((30 : Nat) : Int) from rfl) (fun _ => ?_) (fun q => absurd trivial q)
            refine WS.sel (l' := [(3, vI (i + 1)), (2, vI j2), (1, vI j1), (0, .ref o)]) [3, 2, 1, 0] (by rw [← f2]; rfl) ?_
            exact ih (i + 1) (by omega) (by omega) _ rfl
          | true =>
            refine br_ok X (dk rfl) rfl (show ((58 : Nat) : Int) + 5 = ((63 : Nat) : Int) from rfl) (fun q => absurd q bI_t) (fun _ => ?_)
            refine fst1_ok X (dk rfl) rfl ?_
            exact reti_ok X hr hlk rfl (dk rfl) ⟨⟨_, rfl⟩, ⟨_, _, _, _, _, M1⟩, F1⟩ (Nat.le_of_ble_eq_true rfl) (Nat.le_of_ble_eq_true rfl)
      iterate 2 refine fst1_ok X (dk rfl) rfl ?_
      exact loop _ 0 rfl (Nat.zero_le _) _ rfl
  iterate 2 refine fst1_ok X (dk rfl) rfl ?_
  refine isSlot_ok X E mlX10_95 ⟨Nat.le_of_ble_eq_true rfl, Nat.le_of_ble_eq_true rfl⟩ ⟨Nat.le_of_ble_eq_true rfl, Nat.le_of_ble_eq_true rfl⟩ (Nat.le_of_ble_eq_true rfl) (dk rfl) (fun mid1b0 mid1h0 => ?_)
  cases mid1b0 with
  | false =>
    refine br_ok X (dk rfl) rfl (show ((5 : Nat) : Int) + 10 = ((15 : Nat) : Int) from rfl) (fun _ => ?_) (fun q => absurd bI_f' q)
    refine fst1_ok X (dk rfl) rfl ?_
    refine br_ok X (dk rfl) rfl (show ((16 : Nat) : Int) + 4 = ((20 : Nat) : Int) from rfl) (fun _ => ?_) (fun q => absurd trivial q)
    exact mid1 true (fun z => by cases z)
  | true =>
    refine br_ok X (dk rfl) rfl (show ((5 : Nat) : Int) + 10 = ((15 : Nat) : Int) from rfl) (fun q => absurd q bI_t) (fun _ => ?_)
    iterate 1 refine fst1_ok X (dk rfl) rfl ?_
    refine isSlot_ok X E mlX10_95 ⟨Nat.le_of_ble_eq_true rfl, Nat.le_of_ble_eq_true rfl⟩ ⟨Nat.le_of_ble_eq_true rfl, Nat.le_of_ble_eq_true rfl⟩ (Nat.le_of_ble_eq_true rfl) (dk rfl) (fun mid1b1 mid1h1 => ?_)
    cases mid1b1 with
    | false =>
      refine br_ok X (dk rfl) rfl (show ((12 : Nat) : Int) + 7 = ((19 : Nat) : Int) from rfl) (fun q => absurd q bI_f) (fun _ => ?_)
      refine fst1_ok X (dk rfl) rfl ?_
      refine br_ok X (dk rfl) rfl (show ((16 : Nat) : Int) + 4 = ((20 : Nat) : Int) from rfl) (fun _ => ?_) (fun q => absurd trivial q)
      exact mid1 true (fun z => by cases z)
    | true =>
      refine br_ok X (dk rfl) rfl (show ((12 : Nat) : Int) + 7 = ((19 : Nat) : Int) from rfl) (fun _ => ?_) (fun q => absurd bI_t q)
      refine fst1_ok X (dk rfl) rfl ?_
      exact mid1 false (fun _ => ⟨mid1h0 rfl, mid1h1 rfl⟩)
end M39
