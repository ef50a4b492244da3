/-! questions leave the reference's state (printed by wip/p20/genE2.py) -/
def RF.strR (o S A : Nat) (sl : List (List Nat)) (an : List (List (List Nat))) (da dr kn : Int32) (h : AH) : Option Value → AH → Prop := fun v h' => (∃ sa : Nat, v = some (.ref sa)) ∧ MI o S A sl an da dr kn h h'
def RF.lonR (o S A : Nat) (sl : List (List Nat)) (an : List (List (List Nat))) (da dr kn : Int32) (h : AH) (v : Option Value) (h' : AH) : Prop := (∃ x : Int64, v = some (.long x)) ∧ MI o S A sl an da dr kn h h'
section E2
variable {la : Launch} {D : va_G} {cA : Nat → ClassId} {B0 pa : Nat} {o S A : Nat} {sl : List (List Nat)} {an : List (List (List Nat))} {da dr kn th : Int32}
set_option maxHeartbeats 4000000 in
theorem RF.c_depth (h : AH) (M : MD h o S A sl an da dr kn th) (x1 : Int32) : CT la D cA B0 pa yX10_depth cX10_depth 2 (some .int) (rmD 19 0 0) [.ref o, .int x1] h (intR o S A sl an da dr kn h) := by
  refine CT_of (by decide +kernel) (Nat.le_of_ble_eq_true rfl) ?_
  intro p e s m args below meth c X E hr hlk hnm
  have dk : ∀ {pc : Nat} {q : Instr × Nat}, lkd DX10_depth pc = some q → decode cX10_depth pc = .ok q := lkd_ok DX10_depth_ok
  have mid1 : ∀ t1 : Bool, (t1 = false → inN 6 x1) → WR p la e (rmD 19 0 0) s m args below meth c D cA B0 2 (intR o S A sl an da dr kn h) 13 (lv_args 0 [.ref o, .int x1]) [.int (bI t1), .ref o] h 0 0 := by
    intro t1 ht1
    refine thr1_ok X E M ⟨Nat.le_of_ble_eq_true rfl, Nat.le_of_ble_eq_true rfl⟩ ⟨Nat.le_of_ble_eq_true rfl, Nat.le_of_ble_eq_true rfl⟩ (Nat.le_of_ble_eq_true rfl) (dk rfl) (fun h1 M1 F1 => ?_)
    cases hb : t1 with
    | true =>
      refine br_ok X (dk rfl) rfl (show ((16 : Nat) : Int) + 7 = ((23 : Nat) : Int) from rfl) (fun q => absurd q bI_t) (fun _ => ?_)
      refine fst1_ok X (dk rfl) rfl ?_
      refine br_ok X (dk rfl) rfl (show ((20 : Nat) : Int) + 13 = ((33 : Nat) : Int) from rfl) (fun _ => ?_) (fun q => absurd trivial q)
      exact reti_ok X hr hlk rfl (dk rfl) ⟨⟨_, rfl⟩, ⟨_, M1⟩, F1⟩ (Nat.zero_le _) (Nat.zero_le _)
    | false =>
      refine br_ok X (dk rfl) rfl (show ((16 : Nat) : Int) + 7 = ((23 : Nat) : Int) from rfl) (fun _ => ?_) (fun q => absurd bI_f' q)
      obtain ⟨j1, hj1, rfl⟩ := ht1 hb
      obtain ⟨ss, s1, s2, s3⟩ := M1.slot
      obtain ⟨as, a1, a2, a3⟩ := M1.ans
      obtain ⟨b1, y1, e1, f1, g1, w1, n1⟩ := s3 j1 hj1
      have ly1 : (y1.map vI).length = y1.length := List.length_map _
      repeat refine fst1_ok X (dk rfl) rfl ?_
      refine getf_ok X flX10_11 (dk rfl) M1.obj rfl ?_
      refine fst1_ok X (dk rfl) rfl ?_
      refine ldr_ok X (dk rfl) s2 e1 (by omega) ?_
      repeat refine fst1_ok X (dk rfl) rfl ?_
      refine callS_ok (av := [.ref b1, vI 0]) (r := []) X E (c_depthOf h1 g1 (by omega) w1.lt 16 0 y1.length (by rw [List.drop_zero]; exact w1.1) n1) lkX10_depthOf mlX10_63 lsX10_depthOf ⟨Nat.le_of_ble_eq_true rfl, Nat.le_of_ble_eq_true rfl⟩ ⟨Nat.le_of_ble_eq_true rfl, Nat.le_of_ble_eq_true rfl⟩ (Nat.le_of_ble_eq_true rfl) (dk rfl) ?_
      rintro v h2 ⟨⟨d, rfl, hd⟩, rfl⟩
      exact reti_ok X hr hlk rfl (dk rfl) ⟨⟨_, rfl⟩, ⟨_, M1⟩, F1⟩ (Nat.le_of_ble_eq_true rfl) (Nat.le_of_ble_eq_true rfl)
  iterate 2 refine fst1_ok X (dk rfl) rfl ?_
  refine isSlot_ok X E mlX10_95 ⟨Nat.le_of_ble_eq_true rfl, Nat.le_of_ble_eq_true rfl⟩ ⟨Nat.le_of_ble_eq_true rfl, Nat.le_of_ble_eq_true rfl⟩ (Nat.le_of_ble_eq_true rfl) (dk rfl) (fun mid1b0 mid1h0 mid1n0 => ?_)
  cases mid1b0 with
  | false =>
    refine br_ok X (dk rfl) rfl (show ((5 : Nat) : Int) + 7 = ((12 : Nat) : Int) from rfl) (fun q => absurd q bI_f) (fun _ => ?_)
    refine fst1_ok X (dk rfl) rfl ?_
    refine br_ok X (dk rfl) rfl (show ((9 : Nat) : Int) + 4 = ((13 : Nat) : Int) from rfl) (fun _ => ?_) (fun q => absurd trivial q)
    exact mid1 true (fun z => by cases z)
  | true =>
    refine br_ok X (dk rfl) rfl (show ((5 : Nat) : Int) + 7 = ((12 : Nat) : Int) from rfl) (fun _ => ?_) (fun q => absurd bI_t q)
    refine fst1_ok X (dk rfl) rfl ?_
    exact mid1 false (fun _ => mid1h0 rfl)
set_option maxHeartbeats 4000000 in
theorem RF.c_shared (h : AH) (M : MD h o S A sl an da dr kn th) (x1 : Int32) : CT la D cA B0 pa yX10_shared cX10_shared 2 (some .int) (rmD 6 1 1) [.ref o, .int x1] h (intR o S A sl an da dr kn h) := by
  refine CT_of (by decide +kernel) (Nat.le_of_ble_eq_true rfl) ?_
  intro p e s m args below meth c X E hr hlk hnm
  have dk : ∀ {pc : Nat} {q : Instr × Nat}, lkd DX10_shared pc = some q → decode cX10_shared pc = .ok q := lkd_ok DX10_shared_ok
  have mid1 : ∀ t1 : Bool, (t1 = false → inN 6 x1) → WR p la e (rmD 6 1 1) s m args below meth c D cA B0 2 (intR o S A sl an da dr kn h) 13 (lv_args 0 [.ref o, .int x1]) [.int (bI t1), .ref o] h 0 0 := by
    intro t1 ht1
    refine thr1_ok X E M ⟨Nat.le_of_ble_eq_true rfl, Nat.le_of_ble_eq_true rfl⟩ ⟨Nat.le_of_ble_eq_true rfl, Nat.le_of_ble_eq_true rfl⟩ (Nat.le_of_ble_eq_true rfl) (dk rfl) (fun h1 M1 F1 => ?_)
    cases hb : t1 with
    | true =>
      refine br_ok X (dk rfl) rfl (show ((16 : Nat) : Int) + 7 = ((23 : Nat) : Int) from rfl) (fun q => absurd q bI_t) (fun _ => ?_)
      refine fst1_ok X (dk rfl) rfl ?_
      refine br_ok X (dk rfl) rfl (show ((20 : Nat) : Int) + 12 = ((32 : Nat) : Int) from rfl) (fun _ => ?_) (fun q => absurd trivial q)
      exact reti_ok X hr hlk rfl (dk rfl) ⟨⟨_, rfl⟩, ⟨_, M1⟩, F1⟩ (Nat.zero_le _) (Nat.zero_le _)
    | false =>
      refine br_ok X (dk rfl) rfl (show ((16 : Nat) : Int) + 7 = ((23 : Nat) : Int) from rfl) (fun _ => ?_) (fun q => absurd bI_f' q)
      obtain ⟨j1, hj1, rfl⟩ := ht1 hb
      obtain ⟨ss, s1, s2, s3⟩ := M1.slot
      obtain ⟨as, a1, a2, a3⟩ := M1.ans
      obtain ⟨b1, y1, e1, f1, g1, w1, n1⟩ := s3 j1 hj1
      have ly1 : (y1.map vI).length = y1.length := List.length_map _
      repeat refine fst1_ok X (dk rfl) rfl ?_
      refine getf_ok X flX10_11 (dk rfl) M1.obj rfl ?_
      refine fst1_ok X (dk rfl) rfl ?_
      refine ldr_ok X (dk rfl) s2 e1 (by omega) ?_
      refine callS_ok (av := [.ref b1]) (r := []) X E (c_sharedOf_ h1 g1 ⟨w1, n1⟩) lkX10_sharedOf_ mlX10_202 lsX10_sharedOf_ ⟨Nat.le_of_ble_eq_true rfl, Nat.le_of_ble_eq_true rfl⟩ ⟨Nat.le_of_ble_eq_true rfl, Nat.le_of_ble_eq_true rfl⟩ (Nat.le_of_ble_eq_true rfl) (dk rfl) ?_
      rintro v h2 ⟨⟨d, rfl⟩, X2⟩
      exact reti_ok X hr hlk rfl (dk rfl) ⟨⟨_, rfl⟩, ⟨_, (M1.ext X2)⟩, F1.trans (Fr.ext X2)⟩ (Nat.le_of_ble_eq_true rfl) (Nat.le_of_ble_eq_true rfl)
  iterate 2 refine fst1_ok X (dk rfl) rfl ?_
  refine isSlot_ok X E mlX10_95 ⟨Nat.le_of_ble_eq_true rfl, Nat.le_of_ble_eq_true rfl⟩ ⟨Nat.le_of_ble_eq_true rfl, Nat.le_of_ble_eq_true rfl⟩ (Nat.le_of_ble_eq_true rfl) (dk rfl) (fun mid1b0 mid1h0 mid1n0 => ?_)
  cases mid1b0 with
  | false =>
    refine br_ok X (dk rfl) rfl (show ((5 : Nat) : Int) + 7 = ((12 : Nat) : Int) from rfl) (fun q => absurd q bI_f) (fun _ => ?_)
    refine fst1_ok X (dk rfl) rfl ?_
    refine br_ok X (dk rfl) rfl (show ((9 : Nat) : Int) + 4 = ((13 : Nat) : Int) from rfl) (fun _ => ?_) (fun q => absurd trivial q)
    exact mid1 true (fun z => by cases z)
  | true =>
    refine br_ok X (dk rfl) rfl (show ((5 : Nat) : Int) + 7 = ((12 : Nat) : Int) from rfl) (fun _ => ?_) (fun q => absurd bI_t q)
    refine fst1_ok X (dk rfl) rfl ?_
    exact mid1 false (fun _ => mid1h0 rfl)
set_option maxHeartbeats 4000000 in
theorem RF.c_letter (h : AH) (M : MD h o S A sl an da dr kn th) (x1 x2 : Int32) : CT la D cA B0 pa yX10_letter cX10_letter 3 (some .int) (rmD 2 0 0) [.ref o, .int x1, .int x2] h (intR o S A sl an da dr kn h) := by
  refine CT_of (by decide +kernel) (Nat.le_of_ble_eq_true rfl) ?_
  intro p e s m args below meth c X E hr hlk hnm
  have dk : ∀ {pc : Nat} {q : Instr × Nat}, lkd DX10_letter pc = some q → decode cX10_letter pc = .ok q := lkd_ok DX10_letter_ok
  have mid1 : ∀ t1 : Bool, (t1 = false → inN 6 x1) → WR p la e (rmD 2 0 0) s m args below meth c D cA B0 3 (intR o S A sl an da dr kn h) 13 (lv_args 0 [.ref o, .int x1, .int x2]) [.int (bI t1), .ref o] h 0 0 := by
    intro t1 ht1
    refine thr1_ok X E M ⟨Nat.le_of_ble_eq_true rfl, Nat.le_of_ble_eq_true rfl⟩ ⟨Nat.le_of_ble_eq_true rfl, Nat.le_of_ble_eq_true rfl⟩ (Nat.le_of_ble_eq_true rfl) (dk rfl) (fun h1 M1 F1 => ?_)
    cases hb : t1 with
    | true =>
      refine br_ok X (dk rfl) rfl (show ((16 : Nat) : Int) + 7 = ((23 : Nat) : Int) from rfl) (fun q => absurd q bI_t) (fun _ => ?_)
      refine fst1_ok X (dk rfl) rfl ?_
      refine br_ok X (dk rfl) rfl (show ((20 : Nat) : Int) + 25 = ((45 : Nat) : Int) from rfl) (fun _ => ?_) (fun q => absurd trivial q)
      exact reti_ok X hr hlk rfl (dk rfl) ⟨⟨_, rfl⟩, ⟨_, M1⟩, F1⟩ (Nat.zero_le _) (Nat.zero_le _)
    | false =>
      refine br_ok X (dk rfl) rfl (show ((16 : Nat) : Int) + 7 = ((23 : Nat) : Int) from rfl) (fun _ => ?_) (fun q => absurd bI_f' q)
      obtain ⟨j1, hj1, rfl⟩ := ht1 hb
      obtain ⟨ss, s1, s2, s3⟩ := M1.slot
      obtain ⟨as, a1, a2, a3⟩ := M1.ans
      obtain ⟨b1, y1, e1, f1, g1, w1, n1⟩ := s3 j1 hj1
      have ly1 : (y1.map vI).length = y1.length := List.length_map _
      repeat refine fst1_ok X (dk rfl) rfl ?_
      refine callV_ok (ci := 12) (T := TX10) (N := 6) (av := [vI j1, .int x2]) (r := []) X E (c_isPlace h1 M1 hj1 x2) lkX10_isPlace mlX10_113 lmX10_isPlace lpX10_isPlace ⟨Nat.le_of_ble_eq_true rfl, Nat.le_of_ble_eq_true rfl⟩ ⟨Nat.le_of_ble_eq_true rfl, Nat.le_of_ble_eq_true rfl⟩ rfl M1.obj (Nat.le_of_ble_eq_true rfl) (dk rfl) ?_
      rintro v h2 ⟨⟨bp, rfl, hbp, hnp⟩, rfl⟩
      cases bp with
      | false =>
        refine br_ok X (dk rfl) rfl (show ((29 : Nat) : Int) + 14 = ((43 : Nat) : Int) from rfl) (fun _ => ?_) (fun q => absurd bI_f' q)
        refine fst1_ok X (dk rfl) rfl ?_
        exact reti_ok X hr hlk rfl (dk rfl) ⟨⟨_, rfl⟩, ⟨_, M1⟩, F1⟩ (Nat.le_of_ble_eq_true rfl) (Nat.le_of_ble_eq_true rfl)
      | true =>
        refine br_ok X (dk rfl) rfl (show ((29 : Nat) : Int) + 14 = ((43 : Nat) : Int) from rfl) (fun q => absurd q bI_t) (fun _ => ?_)
        obtain ⟨j2, hj2, rfl⟩ := hbp rfl y1 f1
        obtain ⟨x, hx⟩ : ∃ x, y1[j2]? = some x := ⟨y1[j2]'hj2, by simp⟩
        repeat refine fst1_ok X (dk rfl) rfl ?_
        refine getf_ok X flX10_11 (dk rfl) M1.obj rfl ?_
        refine fst1_ok X (dk rfl) rfl ?_
        refine ldr_ok X (dk rfl) s2 e1 (by omega) ?_
        refine fst1_ok X (dk rfl) rfl ?_
        refine ald_ok X (Or.inl ⟨rfl, rfl⟩) (dk rfl) g1 (inA_nI (by omega) (IA_get hx)) ?_
        refine br_ok X (dk rfl) rfl (show ((40 : Nat) : Int) + 5 = ((45 : Nat) : Int) from rfl) (fun _ => ?_) (fun q => absurd trivial q)
        exact reti_ok X hr hlk rfl (dk rfl) ⟨⟨_, rfl⟩, ⟨_, M1⟩, F1⟩ (Nat.le_of_ble_eq_true rfl) (Nat.le_of_ble_eq_true rfl)
  iterate 2 refine fst1_ok X (dk rfl) rfl ?_
  refine isSlot_ok X E mlX10_95 ⟨Nat.le_of_ble_eq_true rfl, Nat.le_of_ble_eq_true rfl⟩ ⟨Nat.le_of_ble_eq_true rfl, Nat.le_of_ble_eq_true rfl⟩ (Nat.le_of_ble_eq_true rfl) (dk rfl) (fun mid1b0 mid1h0 mid1n0 => ?_)
  cases mid1b0 with
  | false =>
    refine br_ok X (dk rfl) rfl (show ((5 : Nat) : Int) + 7 = ((12 : Nat) : Int) from rfl) (fun q => absurd q bI_f) (fun _ => ?_)
    refine fst1_ok X (dk rfl) rfl ?_
    refine br_ok X (dk rfl) rfl (show ((9 : Nat) : Int) + 4 = ((13 : Nat) : Int) from rfl) (fun _ => ?_) (fun q => absurd trivial q)
    exact mid1 true (fun z => by cases z)
  | true =>
    refine br_ok X (dk rfl) rfl (show ((5 : Nat) : Int) + 7 = ((12 : Nat) : Int) from rfl) (fun _ => ?_) (fun q => absurd bI_t q)
    refine fst1_ok X (dk rfl) rfl ?_
    exact mid1 false (fun _ => mid1h0 rfl)
set_option maxHeartbeats 4000000 in
theorem RF.c_sizeAt (h : AH) (M : MD h o S A sl an da dr kn th) (x1 x2 : Int32) : CT la D cA B0 pa yX10_sizeAt cX10_sizeAt 3 (some .int) (rmD 2 0 0) [.ref o, .int x1, .int x2] h (intR o S A sl an da dr kn h) := by
  refine CT_of (by decide +kernel) (Nat.le_of_ble_eq_true rfl) ?_
  intro p e s m args below meth c X E hr hlk hnm
  have dk : ∀ {pc : Nat} {q : Instr × Nat}, lkd DX10_sizeAt pc = some q → decode cX10_sizeAt pc = .ok q := lkd_ok DX10_sizeAt_ok
  have mid1 : ∀ t1 : Bool, (t1 = false → inN 6 x1) → WR p la e (rmD 2 0 0) s m args below meth c D cA B0 3 (intR o S A sl an da dr kn h) 13 (lv_args 0 [.ref o, .int x1, .int x2]) [.int (bI t1), .ref o] h 0 0 := by
    intro t1 ht1
    refine thr1_ok X E M ⟨Nat.le_of_ble_eq_true rfl, Nat.le_of_ble_eq_true rfl⟩ ⟨Nat.le_of_ble_eq_true rfl, Nat.le_of_ble_eq_true rfl⟩ (Nat.le_of_ble_eq_true rfl) (dk rfl) (fun h1 M1 F1 => ?_)
    cases hb : t1 with
    | true =>
      refine br_ok X (dk rfl) rfl (show ((16 : Nat) : Int) + 7 = ((23 : Nat) : Int) from rfl) (fun q => absurd q bI_t) (fun _ => ?_)
      refine fst1_ok X (dk rfl) rfl ?_
      refine br_ok X (dk rfl) rfl (show ((20 : Nat) : Int) + 29 = ((49 : Nat) : Int) from rfl) (fun _ => ?_) (fun q => absurd trivial q)
      exact reti_ok X hr hlk rfl (dk rfl) ⟨⟨_, rfl⟩, ⟨_, M1⟩, F1⟩ (Nat.zero_le _) (Nat.zero_le _)
    | false =>
      refine br_ok X (dk rfl) rfl (show ((16 : Nat) : Int) + 7 = ((23 : Nat) : Int) from rfl) (fun _ => ?_) (fun q => absurd bI_f' q)
      obtain ⟨j1, hj1, rfl⟩ := ht1 hb
      obtain ⟨ss, s1, s2, s3⟩ := M1.slot
      obtain ⟨as, a1, a2, a3⟩ := M1.ans
      obtain ⟨b1, y1, e1, f1, g1, w1, n1⟩ := s3 j1 hj1
      have ly1 : (y1.map vI).length = y1.length := List.length_map _
      repeat refine fst1_ok X (dk rfl) rfl ?_
      refine callV_ok (ci := 12) (T := TX10) (N := 6) (av := [vI j1, .int x2]) (r := []) X E (c_isPlace h1 M1 hj1 x2) lkX10_isPlace mlX10_113 lmX10_isPlace lpX10_isPlace ⟨Nat.le_of_ble_eq_true rfl, Nat.le_of_ble_eq_true rfl⟩ ⟨Nat.le_of_ble_eq_true rfl, Nat.le_of_ble_eq_true rfl⟩ rfl M1.obj (Nat.le_of_ble_eq_true rfl) (dk rfl) ?_
      rintro v h2 ⟨⟨bp, rfl, hbp, hnp⟩, rfl⟩
      cases bp with
      | false =>
        refine br_ok X (dk rfl) rfl (show ((29 : Nat) : Int) + 18 = ((47 : Nat) : Int) from rfl) (fun _ => ?_) (fun q => absurd bI_f' q)
        refine fst1_ok X (dk rfl) rfl ?_
        exact reti_ok X hr hlk rfl (dk rfl) ⟨⟨_, rfl⟩, ⟨_, M1⟩, F1⟩ (Nat.le_of_ble_eq_true rfl) (Nat.le_of_ble_eq_true rfl)
      | true =>
        refine br_ok X (dk rfl) rfl (show ((29 : Nat) : Int) + 18 = ((47 : Nat) : Int) from rfl) (fun q => absurd q bI_t) (fun _ => ?_)
        obtain ⟨j2, hj2, rfl⟩ := hbp rfl y1 f1
        obtain ⟨k0, t1, t2, t3, t4⟩ := w1.at hj2
        repeat refine fst1_ok X (dk rfl) rfl ?_
        refine getf_ok X flX10_11 (dk rfl) M1.obj rfl ?_
        refine fst1_ok X (dk rfl) rfl ?_
        refine ldr_ok X (dk rfl) s2 e1 (by omega) ?_
        refine fst1_ok X (dk rfl) rfl ?_
        refine callS_ok (av := [.ref b1, vI j2]) (r := []) X E (c_end h2 g1 w1.lt (by omega) t1) lkX10_end mlX10_36 lsX10_end ⟨Nat.le_of_ble_eq_true rfl, Nat.le_of_ble_eq_true rfl⟩ ⟨Nat.le_of_ble_eq_true rfl, Nat.le_of_ble_eq_true rfl⟩ (Nat.le_of_ble_eq_true rfl) (dk rfl) ?_
        rintro v h3 ⟨rfl, rfl⟩
        repeat refine fst1_ok X (dk rfl) rfl ?_
        refine br_ok X (dk rfl) rfl (show ((44 : Nat) : Int) + 5 = ((49 : Nat) : Int) from rfl) (fun _ => ?_) (fun q => absurd trivial q)
        exact reti_ok X hr hlk rfl (dk rfl) ⟨⟨_, rfl⟩, ⟨_, M1⟩, F1⟩ (Nat.le_of_ble_eq_true rfl) (Nat.le_of_ble_eq_true rfl)
  iterate 2 refine fst1_ok X (dk rfl) rfl ?_
  refine isSlot_ok X E mlX10_95 ⟨Nat.le_of_ble_eq_true rfl, Nat.le_of_ble_eq_true rfl⟩ ⟨Nat.le_of_ble_eq_true rfl, Nat.le_of_ble_eq_true rfl⟩ (Nat.le_of_ble_eq_true rfl) (dk rfl) (fun mid1b0 mid1h0 mid1n0 => ?_)
  cases mid1b0 with
  | false =>
    refine br_ok X (dk rfl) rfl (show ((5 : Nat) : Int) + 7 = ((12 : Nat) : Int) from rfl) (fun q => absurd q bI_f) (fun _ => ?_)
    refine fst1_ok X (dk rfl) rfl ?_
    refine br_ok X (dk rfl) rfl (show ((9 : Nat) : Int) + 4 = ((13 : Nat) : Int) from rfl) (fun _ => ?_) (fun q => absurd trivial q)
    exact mid1 true (fun z => by cases z)
  | true =>
    refine br_ok X (dk rfl) rfl (show ((5 : Nat) : Int) + 7 = ((12 : Nat) : Int) from rfl) (fun _ => ?_) (fun q => absurd bI_t q)
    refine fst1_ok X (dk rfl) rfl ?_
    exact mid1 false (fun _ => mid1h0 rfl)
set_option maxHeartbeats 4000000 in
theorem RF.c_count (h : AH) (M : MD h o S A sl an da dr kn th) (x1 x2 : Int32) : CT la D cA B0 pa yX10_count cX10_count 3 (some .int) (rmD 2 0 0) [.ref o, .int x1, .int x2] h (intR o S A sl an da dr kn h) := by
  refine CT_of (by decide +kernel) (Nat.le_of_ble_eq_true rfl) ?_
  intro p e s m args below meth c X E hr hlk hnm
  have dk : ∀ {pc : Nat} {q : Instr × Nat}, lkd DX10_count pc = some q → decode cX10_count pc = .ok q := lkd_ok DX10_count_ok
  have mid2 : ∀ t1 t2 : Bool, (t1 = false → inN 6 x1) → (t2 = false → inN 8 x2) → WR p la e (rmD 2 0 0) s m args below meth c D cA B0 3 (intR o S A sl an da dr kn h) 25 (lv_args 0 [.ref o, .int x1, .int x2]) [.int (bI t2), .int (bI t1), .ref o] h 0 0 := by
    intro t1 t2 ht1 ht2
    refine thr2_ok X E M ⟨Nat.le_of_ble_eq_true rfl, Nat.le_of_ble_eq_true rfl⟩ ⟨Nat.le_of_ble_eq_true rfl, Nat.le_of_ble_eq_true rfl⟩ (Nat.le_of_ble_eq_true rfl) (dk rfl) (fun h1 M1 F1 => ?_)
    cases hb : (t1 || t2) with
    | true =>
      refine br_ok X (dk rfl) rfl (show ((28 : Nat) : Int) + 7 = ((35 : Nat) : Int) from rfl) (fun q => absurd q bI_t) (fun _ => ?_)
      refine fst1_ok X (dk rfl) rfl ?_
      refine br_ok X (dk rfl) rfl (show ((32 : Nat) : Int) + 13 = ((45 : Nat) : Int) from rfl) (fun _ => ?_) (fun q => absurd trivial q)
      exact reti_ok X hr hlk rfl (dk rfl) ⟨⟨_, rfl⟩, ⟨_, M1⟩, F1⟩ (Nat.zero_le _) (Nat.zero_le _)
    | false =>
      refine br_ok X (dk rfl) rfl (show ((28 : Nat) : Int) + 7 = ((35 : Nat) : Int) from rfl) (fun _ => ?_) (fun q => absurd bI_f' q)
      obtain ⟨hb1, hb2⟩ := Bool.or_eq_false_iff.mp hb
      obtain ⟨j1, hj1, rfl⟩ := ht1 hb1
      obtain ⟨j2, hj2, rfl⟩ := ht2 hb2
      obtain ⟨ss, s1, s2, s3⟩ := M1.slot
      obtain ⟨as, a1, a2, a3⟩ := M1.ans
      obtain ⟨b1, y1, e1, f1, g1, w1, n1⟩ := s3 j1 hj1
      have ly1 : (y1.map vI).length = y1.length := List.length_map _
      repeat refine fst1_ok X (dk rfl) rfl ?_
      refine getf_ok X flX10_11 (dk rfl) M1.obj rfl ?_
      refine fst1_ok X (dk rfl) rfl ?_
      refine ldr_ok X (dk rfl) s2 e1 (by omega) ?_
      refine fst1_ok X (dk rfl) rfl ?_
      refine callS_ok (av := [.ref b1, vI j2]) (r := []) X E (c_often h1 (nI j2) g1 (by omega)) lkX10_often mlX10_117 lsX10_often ⟨Nat.le_of_ble_eq_true rfl, Nat.le_of_ble_eq_true rfl⟩ ⟨Nat.le_of_ble_eq_true rfl, Nat.le_of_ble_eq_true rfl⟩ (Nat.le_of_ble_eq_true rfl) (dk rfl) ?_
      rintro v h2 ⟨⟨w0, rfl⟩, rfl⟩
      exact reti_ok X hr hlk rfl (dk rfl) ⟨⟨_, rfl⟩, ⟨_, M1⟩, F1⟩ (Nat.le_of_ble_eq_true rfl) (Nat.le_of_ble_eq_true rfl)
  have mid1 : ∀ t1 : Bool, (t1 = false → inN 6 x1) → WR p la e (rmD 2 0 0) s m args below meth c D cA B0 3 (intR o S A sl an da dr kn h) 13 (lv_args 0 [.ref o, .int x1, .int x2]) [.int (bI t1), .ref o] h 0 0 := by
    intro t1 ht1
    have mid2 := fun t2 => mid2 t1 t2 ht1
    iterate 1 refine fst1_ok X (dk rfl) rfl ?_
    refine isName_ok X E mlX10_99 ⟨Nat.le_of_ble_eq_true rfl, Nat.le_of_ble_eq_true rfl⟩ ⟨Nat.le_of_ble_eq_true rfl, Nat.le_of_ble_eq_true rfl⟩ (Nat.le_of_ble_eq_true rfl) (dk rfl) (fun mid2b0 mid2h0 mid2n0 => ?_)
    cases mid2b0 with
    | false =>
      refine br_ok X (dk rfl) rfl (show ((17 : Nat) : Int) + 7 = ((24 : Nat) : Int) from rfl) (fun q => absurd q bI_f) (fun _ => ?_)
      refine fst1_ok X (dk rfl) rfl ?_
      refine br_ok X (dk rfl) rfl (show ((21 : Nat) : Int) + 4 = ((25 : Nat) : Int) from rfl) (fun _ => ?_) (fun q => absurd trivial q)
      exact mid2 true (fun z => by cases z)
    | true =>
      refine br_ok X (dk rfl) rfl (show ((17 : Nat) : Int) + 7 = ((24 : Nat) : Int) from rfl) (fun _ => ?_) (fun q => absurd bI_t q)
      refine fst1_ok X (dk rfl) rfl ?_
      exact mid2 false (fun _ => mid2h0 rfl)
  iterate 2 refine fst1_ok X (dk rfl) rfl ?_
  refine isSlot_ok X E mlX10_95 ⟨Nat.le_of_ble_eq_true rfl, Nat.le_of_ble_eq_true rfl⟩ ⟨Nat.le_of_ble_eq_true rfl, Nat.le_of_ble_eq_true rfl⟩ (Nat.le_of_ble_eq_true rfl) (dk rfl) (fun mid1b0 mid1h0 mid1n0 => ?_)
  cases mid1b0 with
  | false =>
    refine br_ok X (dk rfl) rfl (show ((5 : Nat) : Int) + 7 = ((12 : Nat) : Int) from rfl) (fun q => absurd q bI_f) (fun _ => ?_)
    refine fst1_ok X (dk rfl) rfl ?_
    refine br_ok X (dk rfl) rfl (show ((9 : Nat) : Int) + 4 = ((13 : Nat) : Int) from rfl) (fun _ => ?_) (fun q => absurd trivial q)
    exact mid1 true (fun z => by cases z)
  | true =>
    refine br_ok X (dk rfl) rfl (show ((5 : Nat) : Int) + 7 = ((12 : Nat) : Int) from rfl) (fun _ => ?_) (fun q => absurd bI_t q)
    refine fst1_ok X (dk rfl) rfl ?_
    exact mid1 false (fun _ => mid1h0 rfl)
set_option maxHeartbeats 4000000 in
theorem RF.c_names (h : AH) (M : MD h o S A sl an da dr kn th) (x1 : Int32) : CT la D cA B0 pa yX10_names cX10_names 2 (some .int) (rmD 2 0 0) [.ref o, .int x1] h (intR o S A sl an da dr kn h) := by
  refine CT_of (by decide +kernel) (Nat.le_of_ble_eq_true rfl) ?_
  intro p e s m args below meth c X E hr hlk hnm
  have dk : ∀ {pc : Nat} {q : Instr × Nat}, lkd DX10_names pc = some q → decode cX10_names pc = .ok q := lkd_ok DX10_names_ok
  have mid1 : ∀ t1 : Bool, (t1 = false → inN 6 x1) → WR p la e (rmD 2 0 0) s m args below meth c D cA B0 2 (intR o S A sl an da dr kn h) 13 (lv_args 0 [.ref o, .int x1]) [.int (bI t1), .ref o] h 0 0 := by
    intro t1 ht1
    refine thr1_ok X E M ⟨Nat.le_of_ble_eq_true rfl, Nat.le_of_ble_eq_true rfl⟩ ⟨Nat.le_of_ble_eq_true rfl, Nat.le_of_ble_eq_true rfl⟩ (Nat.le_of_ble_eq_true rfl) (dk rfl) (fun h1 M1 F1 => ?_)
    cases hb : t1 with
    | true =>
      refine br_ok X (dk rfl) rfl (show ((16 : Nat) : Int) + 7 = ((23 : Nat) : Int) from rfl) (fun q => absurd q bI_t) (fun _ => ?_)
      refine fst1_ok X (dk rfl) rfl ?_
      refine br_ok X (dk rfl) rfl (show ((20 : Nat) : Int) + 12 = ((32 : Nat) : Int) from rfl) (fun _ => ?_) (fun q => absurd trivial q)
      exact reti_ok X hr hlk rfl (dk rfl) ⟨⟨_, rfl⟩, ⟨_, M1⟩, F1⟩ (Nat.zero_le _) (Nat.zero_le _)
    | false =>
      refine br_ok X (dk rfl) rfl (show ((16 : Nat) : Int) + 7 = ((23 : Nat) : Int) from rfl) (fun _ => ?_) (fun q => absurd bI_f' q)
      obtain ⟨j1, hj1, rfl⟩ := ht1 hb
      obtain ⟨ss, s1, s2, s3⟩ := M1.slot
      obtain ⟨as, a1, a2, a3⟩ := M1.ans
      obtain ⟨b1, y1, e1, f1, g1, w1, n1⟩ := s3 j1 hj1
      have ly1 : (y1.map vI).length = y1.length := List.length_map _
      repeat refine fst1_ok X (dk rfl) rfl ?_
      refine getf_ok X flX10_11 (dk rfl) M1.obj rfl ?_
      refine fst1_ok X (dk rfl) rfl ?_
      refine ldr_ok X (dk rfl) s2 e1 (by omega) ?_
      refine callS_ok (av := [.ref b1]) (r := []) X E (c_namesOf h1 g1 (by omega) w1.lt) lkX10_namesOf mlX10_124 lsX10_namesOf ⟨Nat.le_of_ble_eq_true rfl, Nat.le_of_ble_eq_true rfl⟩ ⟨Nat.le_of_ble_eq_true rfl, Nat.le_of_ble_eq_true rfl⟩ (Nat.le_of_ble_eq_true rfl) (dk rfl) ?_
      rintro v h2 ⟨rfl, rfl⟩
      exact reti_ok X hr hlk rfl (dk rfl) ⟨⟨_, rfl⟩, ⟨_, M1⟩, F1⟩ (Nat.le_of_ble_eq_true rfl) (Nat.le_of_ble_eq_true rfl)
  iterate 2 refine fst1_ok X (dk rfl) rfl ?_
  refine isSlot_ok X E mlX10_95 ⟨Nat.le_of_ble_eq_true rfl, Nat.le_of_ble_eq_true rfl⟩ ⟨Nat.le_of_ble_eq_true rfl, Nat.le_of_ble_eq_true rfl⟩ (Nat.le_of_ble_eq_true rfl) (dk rfl) (fun mid1b0 mid1h0 mid1n0 => ?_)
  cases mid1b0 with
  | false =>
    refine br_ok X (dk rfl) rfl (show ((5 : Nat) : Int) + 7 = ((12 : Nat) : Int) from rfl) (fun q => absurd q bI_f) (fun _ => ?_)
    refine fst1_ok X (dk rfl) rfl ?_
    refine br_ok X (dk rfl) rfl (show ((9 : Nat) : Int) + 4 = ((13 : Nat) : Int) from rfl) (fun _ => ?_) (fun q => absurd trivial q)
    exact mid1 true (fun z => by cases z)
  | true =>
    refine br_ok X (dk rfl) rfl (show ((5 : Nat) : Int) + 7 = ((12 : Nat) : Int) from rfl) (fun _ => ?_) (fun q => absurd bI_t q)
    refine fst1_ok X (dk rfl) rfl ?_
    exact mid1 false (fun _ => mid1h0 rfl)
set_option maxHeartbeats 4000000 in
theorem RF.c_differ (h : AH) (M : MD h o S A sl an da dr kn th) (x1 x2 : Int32) : CT la D cA B0 pa yX10_differ cX10_differ 3 (some .int) (rmD 2 0 0) [.ref o, .int x1, .int x2] h (intR o S A sl an da dr kn h) := by
  refine CT_of (by decide +kernel) (Nat.le_of_ble_eq_true rfl) ?_
  intro p e s m args below meth c X E hr hlk hnm
  have dk : ∀ {pc : Nat} {q : Instr × Nat}, lkd DX10_differ pc = some q → decode cX10_differ pc = .ok q := lkd_ok DX10_differ_ok
  have mid1 : ∀ t1 : Bool, (t1 = false → inN 6 x1 ∧ inN 6 x2) → WR p la e (rmD 2 0 0) s m args below meth c D cA B0 3 (intR o S A sl an da dr kn h) 20 (lv_args 0 [.ref o, .int x1, .int x2]) [.int (bI t1), .ref o] h 0 0 := by
    intro t1 ht1
    refine thr1_ok X E M ⟨Nat.le_of_ble_eq_true rfl, Nat.le_of_ble_eq_true rfl⟩ ⟨Nat.le_of_ble_eq_true rfl, Nat.le_of_ble_eq_true rfl⟩ (Nat.le_of_ble_eq_true rfl) (dk rfl) (fun h1 M1 F1 => ?_)
    cases hb : t1 with
    | true =>
      refine br_ok X (dk rfl) rfl (show ((23 : Nat) : Int) + 7 = ((30 : Nat) : Int) from rfl) (fun q => absurd q bI_t) (fun _ => ?_)
      refine fst1_ok X (dk rfl) rfl ?_
      refine br_ok X (dk rfl) rfl (show ((27 : Nat) : Int) + 18 = ((45 : Nat) : Int) from rfl) (fun _ => ?_) (fun q => absurd trivial q)
      exact reti_ok X hr hlk rfl (dk rfl) ⟨⟨_, rfl⟩, ⟨_, M1⟩, F1⟩ (Nat.zero_le _) (Nat.zero_le _)
    | false =>
      refine br_ok X (dk rfl) rfl (show ((23 : Nat) : Int) + 7 = ((30 : Nat) : Int) from rfl) (fun _ => ?_) (fun q => absurd bI_f' q)
      obtain ⟨⟨j1, hj1, rfl⟩, ⟨j2, hj2, rfl⟩⟩ := ht1 hb
      obtain ⟨ss, s1, s2, s3⟩ := M1.slot
      obtain ⟨as, a1, a2, a3⟩ := M1.ans
      obtain ⟨b1, y1, e1, f1, g1, w1, n1⟩ := s3 j1 hj1
      have ly1 : (y1.map vI).length = y1.length := List.length_map _
      obtain ⟨b2, y2, e2, f2, g2, w2, n2⟩ := s3 j2 hj2
      have ly2 : (y2.map vI).length = y2.length := List.length_map _
      repeat refine fst1_ok X (dk rfl) rfl ?_
      refine getf_ok X flX10_11 (dk rfl) M1.obj rfl ?_
      refine fst1_ok X (dk rfl) rfl ?_
      refine ldr_ok X (dk rfl) s2 e1 (by omega) ?_
      repeat refine fst1_ok X (dk rfl) rfl ?_
      refine getf_ok X flX10_11 (dk rfl) M1.obj rfl ?_
      refine fst1_ok X (dk rfl) rfl ?_
      refine ldr_ok X (dk rfl) s2 e2 (by omega) ?_
      refine callS_ok (av := [.ref b1, .ref b2]) (r := []) X E (c_first h1 g1 g2 (by omega) (by omega) w1.lt w2.lt) lkX10_first mlX10_44 lsX10_first ⟨Nat.le_of_ble_eq_true rfl, Nat.le_of_ble_eq_true rfl⟩ ⟨Nat.le_of_ble_eq_true rfl, Nat.le_of_ble_eq_true rfl⟩ (Nat.le_of_ble_eq_true rfl) (dk rfl) ?_
      rintro v h2 ⟨rfl, rfl⟩
      cases hd : diffAt y1 y2 with
      | none =>
        exact reti_ok X hr hlk rfl (dk rfl) ⟨⟨_, rfl⟩, ⟨_, M1⟩, F1⟩ (Nat.le_of_ble_eq_true rfl) (Nat.le_of_ble_eq_true rfl)
      | some d =>
        exact reti_ok X hr hlk rfl (dk rfl) ⟨⟨_, rfl⟩, ⟨_, M1⟩, F1⟩ (Nat.le_of_ble_eq_true rfl) (Nat.le_of_ble_eq_true rfl)
  iterate 2 refine fst1_ok X (dk rfl) rfl ?_
  refine isSlot_ok X E mlX10_95 ⟨Nat.le_of_ble_eq_true rfl, Nat.le_of_ble_eq_true rfl⟩ ⟨Nat.le_of_ble_eq_true rfl, Nat.le_of_ble_eq_true rfl⟩ (Nat.le_of_ble_eq_true rfl) (dk rfl) (fun mid1b0 mid1h0 mid1n0 => ?_)
  cases mid1b0 with
  | false =>
    refine br_ok X (dk rfl) rfl (show ((5 : Nat) : Int) + 10 = ((15 : Nat) : Int) from rfl) (fun _ => ?_) (fun q => absurd bI_f' q)
    refine fst1_ok X (dk rfl) rfl ?_
    refine br_ok X (dk rfl) rfl (show ((16 : Nat) : Int) + 4 = ((20 : Nat) : Int) from rfl) (fun _ => ?_) (fun q => absurd trivial q)
    exact mid1 true (fun z => by cases z)
  | true =>
    refine br_ok X (dk rfl) rfl (show ((5 : Nat) : Int) + 10 = ((15 : Nat) : Int) from rfl) (fun q => absurd q bI_t) (fun _ => ?_)
    iterate 1 refine fst1_ok X (dk rfl) rfl ?_
    refine isSlot_ok X E mlX10_95 ⟨Nat.le_of_ble_eq_true rfl, Nat.le_of_ble_eq_true rfl⟩ ⟨Nat.le_of_ble_eq_true rfl, Nat.le_of_ble_eq_true rfl⟩ (Nat.le_of_ble_eq_true rfl) (dk rfl) (fun mid1b1 mid1h1 mid1n1 => ?_)
    cases mid1b1 with
    | false =>
      refine br_ok X (dk rfl) rfl (show ((12 : Nat) : Int) + 7 = ((19 : Nat) : Int) from rfl) (fun q => absurd q bI_f) (fun _ => ?_)
      refine fst1_ok X (dk rfl) rfl ?_
      refine br_ok X (dk rfl) rfl (show ((16 : Nat) : Int) + 4 = ((20 : Nat) : Int) from rfl) (fun _ => ?_) (fun q => absurd trivial q)
      exact mid1 true (fun z => by cases z)
    | true =>
      refine br_ok X (dk rfl) rfl (show ((12 : Nat) : Int) + 7 = ((19 : Nat) : Int) from rfl) (fun _ => ?_) (fun q => absurd bI_t q)
      refine fst1_ok X (dk rfl) rfl ?_
      exact mid1 false (fun _ => ⟨mid1h0 rfl, mid1h1 rfl⟩)
set_option maxHeartbeats 4000000 in
theorem RF.c_moved (h : AH) (M : MD h o S A sl an da dr kn th) (x1 : Int32) : CT la D cA B0 pa yX10_moved cX10_moved 2 (some .int) (rmD 4 8 8) [.ref o, .int x1] h (intR o S A sl an da dr kn h) := by
  refine CT_of (by decide +kernel) (Nat.le_of_ble_eq_true rfl) ?_
  intro p e s m args below meth c X E hr hlk hnm
  have dk : ∀ {pc : Nat} {q : Instr × Nat}, lkd DX10_moved pc = some q → decode cX10_moved pc = .ok q := lkd_ok DX10_moved_ok
  have mid1 : ∀ t1 : Bool, (t1 = false → inN 3 x1) → WR p la e (rmD 4 8 8) s m args below meth c D cA B0 2 (intR o S A sl an da dr kn h) 13 (lv_args 0 [.ref o, .int x1]) [.int (bI t1), .ref o] h 0 0 := by
    intro t1 ht1
    refine thr1_ok X E M ⟨Nat.le_of_ble_eq_true rfl, Nat.le_of_ble_eq_true rfl⟩ ⟨Nat.le_of_ble_eq_true rfl, Nat.le_of_ble_eq_true rfl⟩ (Nat.le_of_ble_eq_true rfl) (dk rfl) (fun h1 M1 F1 => ?_)
    cases hb : t1 with
    | true =>
      refine br_ok X (dk rfl) rfl (show ((16 : Nat) : Int) + 7 = ((23 : Nat) : Int) from rfl) (fun q => absurd q bI_t) (fun _ => ?_)
      refine fst1_ok X (dk rfl) rfl ?_
      refine br_ok X (dk rfl) rfl (show ((20 : Nat) : Int) + 12 = ((32 : Nat) : Int) from rfl) (fun _ => ?_) (fun q => absurd trivial q)
      exact reti_ok X hr hlk rfl (dk rfl) ⟨⟨_, rfl⟩, ⟨_, M1⟩, F1⟩ (Nat.zero_le _) (Nat.zero_le _)
    | false =>
      refine br_ok X (dk rfl) rfl (show ((16 : Nat) : Int) + 7 = ((23 : Nat) : Int) from rfl) (fun _ => ?_) (fun q => absurd bI_f' q)
      obtain ⟨j1, hj1, rfl⟩ := ht1 hb
      obtain ⟨ss, s1, s2, s3⟩ := M1.slot
      obtain ⟨as, a1, a2, a3⟩ := M1.ans
      obtain ⟨b1, y1, e1, f1, g1, w1, n1⟩ := a3 j1 hj1
      repeat refine fst1_ok X (dk rfl) rfl ?_
      refine getf_ok X flX10_16 (dk rfl) M1.obj rfl ?_
      refine fst1_ok X (dk rfl) rfl ?_
      refine lda_ok X (dk rfl) a2 e1 (by omega) ?_
      refine callS_ok (av := [.ref b1]) (r := []) X E (c_movedBy h1 g1 w1) lkX10_movedBy mlX10_141 lsX10_movedBy ⟨Nat.le_of_ble_eq_true rfl, Nat.le_of_ble_eq_true rfl⟩ ⟨Nat.le_of_ble_eq_true rfl, Nat.le_of_ble_eq_true rfl⟩ (Nat.le_of_ble_eq_true rfl) (dk rfl) ?_
      rintro v h2 ⟨rfl, E1⟩
      exact reti_ok X hr hlk rfl (dk rfl) ⟨⟨_, rfl⟩, ⟨_, (M1.ext E1)⟩, F1.trans (Fr.ext E1)⟩ (Nat.le_of_ble_eq_true rfl) (Nat.le_of_ble_eq_true rfl)
  iterate 2 refine fst1_ok X (dk rfl) rfl ?_
  refine isAnswer_ok X E mlX10_135 ⟨Nat.le_of_ble_eq_true rfl, Nat.le_of_ble_eq_true rfl⟩ ⟨Nat.le_of_ble_eq_true rfl, Nat.le_of_ble_eq_true rfl⟩ (Nat.le_of_ble_eq_true rfl) (dk rfl) (fun mid1b0 mid1h0 mid1n0 => ?_)
  cases mid1b0 with
  | false =>
    refine br_ok X (dk rfl) rfl (show ((5 : Nat) : Int) + 7 = ((12 : Nat) : Int) from rfl) (fun q => absurd q bI_f) (fun _ => ?_)
    refine fst1_ok X (dk rfl) rfl ?_
    refine br_ok X (dk rfl) rfl (show ((9 : Nat) : Int) + 4 = ((13 : Nat) : Int) from rfl) (fun _ => ?_) (fun q => absurd trivial q)
    exact mid1 true (fun z => by cases z)
  | true =>
    refine br_ok X (dk rfl) rfl (show ((5 : Nat) : Int) + 7 = ((12 : Nat) : Int) from rfl) (fun _ => ?_) (fun q => absurd bI_t q)
    refine fst1_ok X (dk rfl) rfl ?_
    exact mid1 false (fun _ => mid1h0 rfl)
set_option maxHeartbeats 4000000 in
theorem RF.c_find (h : AH) (M : MD h o S A sl an da dr kn th) (x1 x2 : Int32) : CT la D cA B0 pa yX10_find cX10_find 4 (some .int) (rmD 3 0 0) [.ref o, .int x1, .int x2] h (intR o S A sl an da dr kn h) := by
  refine CT_of (by decide +kernel) (Nat.le_of_ble_eq_true rfl) ?_
  intro p e s m args below meth c X E hr hlk hnm
  have dk : ∀ {pc : Nat} {q : Instr × Nat}, lkd DX10_find pc = some q → decode cX10_find pc = .ok q := lkd_ok DX10_find_ok
  have mid1 : ∀ t1 : Bool, (t1 = false → inN 6 x1 ∧ inN 6 x2) → WR p la e (rmD 3 0 0) s m args below meth c D cA B0 4 (intR o S A sl an da dr kn h) 20 (lv_args 0 [.ref o, .int x1, .int x2]) [.int (bI t1), .ref o] h 0 0 := by
    intro t1 ht1
    refine thr1_ok X E M ⟨Nat.le_of_ble_eq_true rfl, Nat.le_of_ble_eq_true rfl⟩ ⟨Nat.le_of_ble_eq_true rfl, Nat.le_of_ble_eq_true rfl⟩ (Nat.le_of_ble_eq_true rfl) (dk rfl) (fun h1 M1 F1 => ?_)
    cases hb : t1 with
    | true =>
      refine br_ok X (dk rfl) rfl (show ((23 : Nat) : Int) + 5 = ((28 : Nat) : Int) from rfl) (fun q => absurd q bI_t) (fun _ => ?_)
      refine fst1_ok X (dk rfl) rfl ?_
      exact reti_ok X hr hlk rfl (dk rfl) ⟨⟨_, rfl⟩, ⟨_, M1⟩, F1⟩ (Nat.zero_le _) (Nat.zero_le _)
    | false =>
      refine br_ok X (dk rfl) rfl (show ((23 : Nat) : Int) + 5 = ((28 : Nat) : Int) from rfl) (fun _ => ?_) (fun q => absurd bI_f' q)
      obtain ⟨⟨j1, hj1, rfl⟩, ⟨j2, hj2, rfl⟩⟩ := ht1 hb
      obtain ⟨ss, s1, s2, s3⟩ := M1.slot
      obtain ⟨as, a1, a2, a3⟩ := M1.ans
      obtain ⟨b1, y1, e1, f1, g1, w1, n1⟩ := s3 j1 hj1
      have ly1 : (y1.map vI).length = y1.length := List.length_map _
      obtain ⟨b2, y2, e2, f2, g2, w2, n2⟩ := s3 j2 hj2
      have ly2 : (y2.map vI).length = y2.length := List.length_map _
      have loop : ∀ (d i : Nat), d = y1.length - i → i ≤ y1.length → ∀ (l : List (Nat × Value)), lsel l [3, 2, 1, 0] = [(3, vI i), (2, vI j2), (1, vI j1), (0, .ref o)] → WR p la e (rmD 3 0 0) s m args below meth c D cA B0 4 (intR o S A sl an da dr kn h) 30 l [] h1 0 0 := by
        intro d
        induction d with
        | zero =>
          intro i hd hi l hl
          have hi2 : i = y1.length := by omega
          subst hi2
          refine WS.sel [3, 2, 1, 0] hl ?_
          repeat refine fst1_ok X (dk rfl) rfl ?_
          refine getf_ok X flX10_11 (dk rfl) M1.obj rfl ?_
          refine fst1_ok X (dk rfl) rfl ?_
          refine ldr_ok X (dk rfl) s2 e1 (by omega) ?_
          refine alen_ok X (by decide) (dk rfl) g1 ?_
          rw [ly1]
          refine br_ok X (dk rfl) rfl (show ((38 : Nat) : Int) + 31 = ((69 : Nat) : Int) from rfl) (fun _ => ?_) (fun c1 => absurd (Int32.le_refl _) c1)
          repeat refine fst1_ok X (dk rfl) rfl ?_
          exact reti_ok X hr hlk rfl (dk rfl) ⟨⟨_, rfl⟩, ⟨_, M1⟩, F1⟩ (Nat.le_of_ble_eq_true rfl) (Nat.le_of_ble_eq_true rfl)
        | succ d ih =>
          intro i hd hi l hl
          obtain ⟨k0, t1, t2, t3, t4⟩ := w1.at (j := i) (by omega)
          have f2 : Value.int (nI i + Int32.ofInt 1) = vI (i + 1) := congrArg Value.int (by rw [nI_1', nI_add])
          refine WS.sel [3, 2, 1, 0] hl ?_
          repeat refine fst1_ok X (dk rfl) rfl ?_
          refine getf_ok X flX10_11 (dk rfl) M1.obj rfl ?_
          refine fst1_ok X (dk rfl) rfl ?_
          refine ldr_ok X (dk rfl) s2 e1 (by omega) ?_
          refine alen_ok X (by decide) (dk rfl) g1 ?_
          rw [ly1]
          refine br_ok X (dk rfl) rfl (show ((38 : Nat) : Int) + 31 = ((69 : Nat) : Int) from rfl) (fun c1 => absurd c1 (nI_ge (by omega) (by omega))) (fun _ => ?_)
          repeat refine fst1_ok X (dk rfl) rfl ?_
          refine getf_ok X flX10_11 (dk rfl) M1.obj rfl ?_
          refine fst1_ok X (dk rfl) rfl ?_
          refine ldr_ok X (dk rfl) s2 e1 (by omega) ?_
          repeat refine fst1_ok X (dk rfl) rfl ?_
          refine getf_ok X flX10_11 (dk rfl) M1.obj rfl ?_
          refine fst1_ok X (dk rfl) rfl ?_
          refine ldr_ok X (dk rfl) s2 e2 (by omega) ?_
          refine fst1_ok X (dk rfl) rfl ?_
          refine callS_ok (av := [.ref b1, vI i, .ref b2, vI 0]) (r := []) X E (c_isAt h1 g1 g2 (by omega) (by omega) w1.lt w2.lt t1 (by rw [List.drop_zero]; exact w2.1)) lkX10_isAt mlX10_70 lsX10_isAt ⟨Nat.le_of_ble_eq_true rfl, Nat.le_of_ble_eq_true rfl⟩ ⟨Nat.le_of_ble_eq_true rfl, Nat.le_of_ble_eq_true rfl⟩ (Nat.le_of_ble_eq_true rfl) (dk rfl) ?_
          rintro v h2 ⟨rfl, rfl⟩
          rw [ite_bI]
          cases hz : decide ((y1.drop i).take k0 = (y2.drop 0).take y2.length) with
          | false =>
            refine br_ok X (dk rfl) rfl (show ((58 : Nat) : Int) + 5 = ((63 : Nat) : Int) from rfl) (fun _ => ?_) (fun q => absurd bI_f' q)
            repeat refine fst1_ok X (dk rfl) rfl ?_
            refine br_ok X (dk rfl) rfl (show ((66 : Nat) : Int) + (-36) = ((30 : Nat) : Int) from rfl) (fun _ => ?_) (fun q => absurd trivial q)
            refine WS.sel (l' := [(3, vI (i + 1)), (2, vI j2), (1, vI j1), (0, .ref o)]) [3, 2, 1, 0] (by rw [← f2]; rfl) ?_
            exact ih (i + 1) (by omega) (by omega) _ rfl
          | true =>
            refine br_ok X (dk rfl) rfl (show ((58 : Nat) : Int) + 5 = ((63 : Nat) : Int) from rfl) (fun q => absurd q bI_t) (fun _ => ?_)
            refine fst1_ok X (dk rfl) rfl ?_
            exact reti_ok X hr hlk rfl (dk rfl) ⟨⟨_, rfl⟩, ⟨_, M1⟩, F1⟩ (Nat.le_of_ble_eq_true rfl) (Nat.le_of_ble_eq_true rfl)
      iterate 2 refine fst1_ok X (dk rfl) rfl ?_
      exact loop _ 0 rfl (Nat.zero_le _) _ rfl
  iterate 2 refine fst1_ok X (dk rfl) rfl ?_
  refine isSlot_ok X E mlX10_95 ⟨Nat.le_of_ble_eq_true rfl, Nat.le_of_ble_eq_true rfl⟩ ⟨Nat.le_of_ble_eq_true rfl, Nat.le_of_ble_eq_true rfl⟩ (Nat.le_of_ble_eq_true rfl) (dk rfl) (fun mid1b0 mid1h0 mid1n0 => ?_)
  cases mid1b0 with
  | false =>
    refine br_ok X (dk rfl) rfl (show ((5 : Nat) : Int) + 10 = ((15 : Nat) : Int) from rfl) (fun _ => ?_) (fun q => absurd bI_f' q)
    refine fst1_ok X (dk rfl) rfl ?_
    refine br_ok X (dk rfl) rfl (show ((16 : Nat) : Int) + 4 = ((20 : Nat) : Int) from rfl) (fun _ => ?_) (fun q => absurd trivial q)
    exact mid1 true (fun z => by cases z)
  | true =>
    refine br_ok X (dk rfl) rfl (show ((5 : Nat) : Int) + 10 = ((15 : Nat) : Int) from rfl) (fun q => absurd q bI_t) (fun _ => ?_)
    iterate 1 refine fst1_ok X (dk rfl) rfl ?_
    refine isSlot_ok X E mlX10_95 ⟨Nat.le_of_ble_eq_true rfl, Nat.le_of_ble_eq_true rfl⟩ ⟨Nat.le_of_ble_eq_true rfl, Nat.le_of_ble_eq_true rfl⟩ (Nat.le_of_ble_eq_true rfl) (dk rfl) (fun mid1b1 mid1h1 mid1n1 => ?_)
    cases mid1b1 with
    | false =>
      refine br_ok X (dk rfl) rfl (show ((12 : Nat) : Int) + 7 = ((19 : Nat) : Int) from rfl) (fun q => absurd q bI_f) (fun _ => ?_)
      refine fst1_ok X (dk rfl) rfl ?_
      refine br_ok X (dk rfl) rfl (show ((16 : Nat) : Int) + 4 = ((20 : Nat) : Int) from rfl) (fun _ => ?_) (fun q => absurd trivial q)
      exact mid1 true (fun z => by cases z)
    | true =>
      refine br_ok X (dk rfl) rfl (show ((12 : Nat) : Int) + 7 = ((19 : Nat) : Int) from rfl) (fun _ => ?_) (fun q => absurd bI_t q)
      refine fst1_ok X (dk rfl) rfl ?_
      exact mid1 false (fun _ => ⟨mid1h0 rfl, mid1h1 rfl⟩)
set_option maxHeartbeats 4000000 in
theorem RF.c_is (h : AH) (M : MD h o S A sl an da dr kn th) (x1 x2 x3 : Int32) : CT la D cA B0 pa yX10_is cX10_is 4 (some .boolean) (rmD 4 25 48) [.ref o, .int x1, .int x2, .int x3] h (booR o S A sl an da dr kn h) := by
  refine CT_of (by decide +kernel) (Nat.le_of_ble_eq_true rfl) ?_
  intro p e s m args below meth c X E hr hlk hnm
  have dk : ∀ {pc : Nat} {q : Instr × Nat}, lkd DX10_is pc = some q → decode cX10_is pc = .ok q := lkd_ok DX10_is_ok
  have mid2 : ∀ t1 t2 : Bool, (t1 = false → inN 6 x1 ∧ inN 6 x2) → (t2 = false → inN 3 x3) → WR p la e (rmD 4 25 48) s m args below meth c D cA B0 4 (booR o S A sl an da dr kn h) 34 (lv_args 0 [.ref o, .int x1, .int x2, .int x3]) [.int (bI t2), .int (bI t1), .ref o] h 0 0 := by
    intro t1 t2 ht1 ht2
    refine thr2_ok X E M ⟨Nat.le_of_ble_eq_true rfl, Nat.le_of_ble_eq_true rfl⟩ ⟨Nat.le_of_ble_eq_true rfl, Nat.le_of_ble_eq_true rfl⟩ (Nat.le_of_ble_eq_true rfl) (dk rfl) (fun h1 M1 F1 => ?_)
    cases hb : (t1 || t2) with
    | true =>
      refine br_ok X (dk rfl) rfl (show ((37 : Nat) : Int) + 5 = ((42 : Nat) : Int) from rfl) (fun q => absurd q bI_t) (fun _ => ?_)
      refine fst1_ok X (dk rfl) rfl ?_
      exact reti_ok X hr hlk (bI_n false) (dk rfl) ⟨⟨false, rfl⟩, ⟨_, M1⟩, F1⟩ (Nat.zero_le _) (Nat.zero_le _)
    | false =>
      refine br_ok X (dk rfl) rfl (show ((37 : Nat) : Int) + 5 = ((42 : Nat) : Int) from rfl) (fun _ => ?_) (fun q => absurd bI_f' q)
      obtain ⟨hb1, hb2⟩ := Bool.or_eq_false_iff.mp hb
      obtain ⟨⟨j1, hj1, rfl⟩, ⟨j2, hj2, rfl⟩⟩ := ht1 hb1
      obtain ⟨j3, hj3, rfl⟩ := ht2 hb2
      obtain ⟨ss, s1, s2, s3⟩ := M1.slot
      obtain ⟨as, a1, a2, a3⟩ := M1.ans
      obtain ⟨b1, y1, e1, f1, g1, w1, n1⟩ := s3 j1 hj1
      have ly1 : (y1.map vI).length = y1.length := List.length_map _
      obtain ⟨b2, y2, e2, f2, g2, w2, n2⟩ := s3 j2 hj2
      have ly2 : (y2.map vI).length = y2.length := List.length_map _
      repeat refine fst1_ok X (dk rfl) rfl ?_
      refine br_ok X (dk rfl) rfl (show ((44 : Nat) : Int) + 27 = ((71 : Nat) : Int) from rfl) (fun _ => ?_) (fun _ => ?_)
      · repeat refine fst1_ok X (dk rfl) rfl ?_
        refine br_ok X (dk rfl) rfl (show ((72 : Nat) : Int) + 21 = ((93 : Nat) : Int) from rfl) (fun _ => ?_) (fun _ => ?_)
        · repeat refine fst1_ok X (dk rfl) rfl ?_
          refine getf_ok X flX10_11 (dk rfl) M1.obj rfl ?_
          refine fst1_ok X (dk rfl) rfl ?_
          refine ldr_ok X (dk rfl) s2 e1 (by omega) ?_
          refine callS_ok (av := [.ref b1]) (r := []) X E (c_plainOf h1 g1 w1.2 n1) lkX10_plainOf mlX10_131 lsX10_plainOf ⟨Nat.le_of_ble_eq_true rfl, Nat.le_of_ble_eq_true rfl⟩ ⟨Nat.le_of_ble_eq_true rfl, by show 0 + (8 + y1.length) ≤ 48; omega⟩ (Nat.le_of_ble_eq_true rfl) (dk rfl) ?_
          rintro v h2 ⟨q, rfl, hq, hBq, XQ, hQ⟩
          obtain ⟨tp1, lp1⟩ := w1.plain
          obtain ⟨tp2, lp2⟩ := w2.plain
          refine WS.widen (k' := 2) (n' := 24) (Nat.le_of_ble_eq_true rfl) (by show 0 + (8 + y1.length) ≤ 24; omega) ?_
          have M2 := M1.ext XQ
          repeat refine fst1_ok X (dk rfl) rfl ?_
          refine getf_ok X flX10_11 (dk rfl) M2.obj rfl ?_
          refine fst1_ok X (dk rfl) rfl ?_
          refine ldr_ok X (dk rfl) (XQ _ _ s2) e2 (by omega) ?_
          refine callS_ok (av := [.ref b2]) (r := [.ref q]) X E (c_plainOf h2 (XQ _ _ g2) w2.2 n2) lkX10_plainOf mlX10_131 lsX10_plainOf ⟨Nat.le_of_ble_eq_true rfl, Nat.le_of_ble_eq_true rfl⟩ ⟨Nat.le_of_ble_eq_true rfl, by show 24 + (8 + y2.length) ≤ 48; omega⟩ (Nat.le_of_ble_eq_true rfl) (dk rfl) ?_
          rintro v h3 ⟨q3, rfl, hq3, hBq3, XQ3, hQ3⟩
          refine WS.widen (k' := 4) (n' := 48) (Nat.le_of_ble_eq_true rfl) (by show 24 + (8 + y2.length) ≤ 48; omega) ?_
          have M3 := M2.ext XQ3
          refine callS_ok (av := [.ref q, .ref q3]) (r := []) X E (c_same h3 (XQ3 _ _ hQ) hQ3 (by omega) (by omega) tp1.lt tp2.lt) lkX10_same mlX10_54 lsX10_same ⟨Nat.le_of_ble_eq_true rfl, Nat.le_of_ble_eq_true rfl⟩ ⟨Nat.le_of_ble_eq_true rfl, Nat.le_of_ble_eq_true rfl⟩ (Nat.le_of_ble_eq_true rfl) (dk rfl) ?_
          rintro v h4 ⟨rfl, rfl⟩
          rw [ite_bI]
          exact reti_ok X hr hlk (bI_n _) (dk rfl) ⟨⟨_, rfl⟩, ⟨_, M3⟩, F1.trans (Fr.ext (XQ.trans XQ3))⟩ (Nat.le_of_ble_eq_true rfl) (Nat.le_of_ble_eq_true rfl)
        · repeat refine fst1_ok X (dk rfl) rfl ?_
          refine getf_ok X flX10_11 (dk rfl) M1.obj rfl ?_
          refine fst1_ok X (dk rfl) rfl ?_
          refine ldr_ok X (dk rfl) s2 e1 (by omega) ?_
          repeat refine fst1_ok X (dk rfl) rfl ?_
          refine getf_ok X flX10_11 (dk rfl) M1.obj rfl ?_
          refine fst1_ok X (dk rfl) rfl ?_
          refine ldr_ok X (dk rfl) s2 e2 (by omega) ?_
          refine callS_ok (av := [.ref b1, .ref b2]) (r := []) X E (c_same h1 g1 g2 (by omega) (by omega) w1.lt w2.lt) lkX10_same mlX10_54 lsX10_same ⟨Nat.le_of_ble_eq_true rfl, Nat.le_of_ble_eq_true rfl⟩ ⟨Nat.le_of_ble_eq_true rfl, Nat.le_of_ble_eq_true rfl⟩ (Nat.le_of_ble_eq_true rfl) (dk rfl) ?_
          rintro v h4 ⟨rfl, rfl⟩
          rw [ite_bI]
          refine br_ok X (dk rfl) rfl (show ((90 : Nat) : Int) + 24 = ((114 : Nat) : Int) from rfl) (fun _ => ?_) (fun q => absurd trivial q)
          exact reti_ok X hr hlk (bI_n _) (dk rfl) ⟨⟨_, rfl⟩, ⟨_, M1⟩, F1⟩ (Nat.le_of_ble_eq_true rfl) (Nat.le_of_ble_eq_true rfl)
      · repeat refine fst1_ok X (dk rfl) rfl ?_
        refine getf_ok X flX10_11 (dk rfl) M1.obj rfl ?_
        refine fst1_ok X (dk rfl) rfl ?_
        refine ldr_ok X (dk rfl) s2 e2 (by omega) ?_
        repeat refine fst1_ok X (dk rfl) rfl ?_
        refine getf_ok X flX10_11 (dk rfl) M1.obj rfl ?_
        refine fst1_ok X (dk rfl) rfl ?_
        refine ldr_ok X (dk rfl) s2 e1 (by omega) ?_
        refine callS_ok (av := [.ref b2, .ref b1]) (r := []) X E (c_matched h1 g2 g1 w2.2 w1 n2 n1) lkX10_matched mlX10_169 lsX10_matched ⟨Nat.le_of_ble_eq_true rfl, Nat.le_of_ble_eq_true rfl⟩ ⟨Nat.le_of_ble_eq_true rfl, Nat.le_of_ble_eq_true rfl⟩ (Nat.le_of_ble_eq_true rfl) (dk rfl) ?_
        rintro v h2 ⟨hP, -⟩
        cases hm : matchL y2 y1 with
        | none =>
          rw [hm] at hP
          obtain ⟨rfl, XQ⟩ := hP
          refine br_ok X (dk rfl) rfl (show ((62 : Nat) : Int) + 7 = ((69 : Nat) : Int) from rfl) (fun _ => ?_) (fun q => absurd trivial q)
          refine fst1_ok X (dk rfl) rfl ?_
          exact reti_ok X hr hlk (bI_n false) (dk rfl) ⟨⟨false, rfl⟩, ⟨_, (M1.ext XQ)⟩, F1.trans (Fr.ext XQ)⟩ (Nat.le_of_ble_eq_true rfl) (Nat.le_of_ble_eq_true rfl)
        | some rows =>
          rw [hm] at hP
          obtain ⟨q, rfl, hq, hBq, XQ, nQ⟩ := hP
          refine br_ok X (dk rfl) rfl (show ((62 : Nat) : Int) + 7 = ((69 : Nat) : Int) from rfl) (fun q => absurd q (fun z => z)) (fun _ => ?_)
          refine fst1_ok X (dk rfl) rfl ?_
          refine br_ok X (dk rfl) rfl (show ((66 : Nat) : Int) + 4 = ((70 : Nat) : Int) from rfl) (fun _ => ?_) (fun q => absurd trivial q)
          exact reti_ok X hr hlk (bI_n true) (dk rfl) ⟨⟨true, rfl⟩, ⟨_, (M1.ext XQ)⟩, F1.trans (Fr.ext XQ)⟩ (Nat.le_of_ble_eq_true rfl) (Nat.le_of_ble_eq_true rfl)
  have mid1 : ∀ t1 : Bool, (t1 = false → inN 6 x1 ∧ inN 6 x2) → WR p la e (rmD 4 25 48) s m args below meth c D cA B0 4 (booR o S A sl an da dr kn h) 20 (lv_args 0 [.ref o, .int x1, .int x2, .int x3]) [.int (bI t1), .ref o] h 0 0 := by
    intro t1 ht1
    have mid2 := fun t2 => mid2 t1 t2 ht1
    iterate 1 refine fst1_ok X (dk rfl) rfl ?_
    have mid2T : ∀ l : List (Nat × Value), l = (lv_args 0 [.ref o, .int x1, .int x2, .int x3]) → WR p la e (rmD 4 25 48) s m args below meth c D cA B0 4 (booR o S A sl an da dr kn h) 29 l [.int (bI t1), .ref o] h 0 0 := by
      intro l hl
      rw [hl]
      refine fst1_ok X (dk rfl) rfl ?_
      refine br_ok X (dk rfl) rfl (show ((30 : Nat) : Int) + 4 = ((34 : Nat) : Int) from rfl) (fun _ => ?_) (fun q => absurd trivial q)
      exact mid2 true (fun z => by cases z)
    refine br_ok X (dk rfl) rfl (show ((21 : Nat) : Int) + 8 = ((29 : Nat) : Int) from rfl) (fun _ => mid2T _ rfl) (fun c1 => ?_)
    iterate 2 refine fst1_ok X (dk rfl) rfl ?_
    refine br_ok X (dk rfl) rfl (show ((26 : Nat) : Int) + 7 = ((33 : Nat) : Int) from rfl) (fun c2 => ?_) (fun _ => mid2T _ rfl)
    refine fst1_ok X (dk rfl) rfl ?_
    exact mid2 false (fun _ => inN_le (K := 2) (by omega) c1 (by rw [show nI 2 = Int32.ofInt 2 by decide +kernel]; exact c2))
  iterate 2 refine fst1_ok X (dk rfl) rfl ?_
  refine isSlot_ok X E mlX10_95 ⟨Nat.le_of_ble_eq_true rfl, Nat.le_of_ble_eq_true rfl⟩ ⟨Nat.le_of_ble_eq_true rfl, Nat.le_of_ble_eq_true rfl⟩ (Nat.le_of_ble_eq_true rfl) (dk rfl) (fun mid1b0 mid1h0 mid1n0 => ?_)
  cases mid1b0 with
  | false =>
    refine br_ok X (dk rfl) rfl (show ((5 : Nat) : Int) + 10 = ((15 : Nat) : Int) from rfl) (fun _ => ?_) (fun q => absurd bI_f' q)
    refine fst1_ok X (dk rfl) rfl ?_
    refine br_ok X (dk rfl) rfl (show ((16 : Nat) : Int) + 4 = ((20 : Nat) : Int) from rfl) (fun _ => ?_) (fun q => absurd trivial q)
    exact mid1 true (fun z => by cases z)
  | true =>
    refine br_ok X (dk rfl) rfl (show ((5 : Nat) : Int) + 10 = ((15 : Nat) : Int) from rfl) (fun q => absurd q bI_t) (fun _ => ?_)
    iterate 1 refine fst1_ok X (dk rfl) rfl ?_
    refine isSlot_ok X E mlX10_95 ⟨Nat.le_of_ble_eq_true rfl, Nat.le_of_ble_eq_true rfl⟩ ⟨Nat.le_of_ble_eq_true rfl, Nat.le_of_ble_eq_true rfl⟩ (Nat.le_of_ble_eq_true rfl) (dk rfl) (fun mid1b1 mid1h1 mid1n1 => ?_)
    cases mid1b1 with
    | false =>
      refine br_ok X (dk rfl) rfl (show ((12 : Nat) : Int) + 7 = ((19 : Nat) : Int) from rfl) (fun q => absurd q bI_f) (fun _ => ?_)
      refine fst1_ok X (dk rfl) rfl ?_
      refine br_ok X (dk rfl) rfl (show ((16 : Nat) : Int) + 4 = ((20 : Nat) : Int) from rfl) (fun _ => ?_) (fun q => absurd trivial q)
      exact mid1 true (fun z => by cases z)
    | true =>
      refine br_ok X (dk rfl) rfl (show ((12 : Nat) : Int) + 7 = ((19 : Nat) : Int) from rfl) (fun _ => ?_) (fun q => absurd bI_t q)
      refine fst1_ok X (dk rfl) rfl ?_
      exact mid1 false (fun _ => ⟨mid1h0 rfl, mid1h1 rfl⟩)
set_option maxHeartbeats 4000000 in
theorem RF.c_makes (h : AH) (M : MD h o S A sl an da dr kn th) (x1 x2 x3 : Int32) : CT la D cA B0 pa yX10_makes cX10_makes 4 (some .boolean) (rmD 3 34 544) [.ref o, .int x1, .int x2, .int x3] h (booR o S A sl an da dr kn h) := by
  refine CT_of (by decide +kernel) (Nat.le_of_ble_eq_true rfl) ?_
  intro p e s m args below meth c X E hr hlk hnm
  have dk : ∀ {pc : Nat} {q : Instr × Nat}, lkd DX10_makes pc = some q → decode cX10_makes pc = .ok q := lkd_ok DX10_makes_ok
  have mid1 : ∀ t1 : Bool, (t1 = false → inN 3 x1 ∧ inN 6 x2 ∧ inN 6 x3) → WR p la e (rmD 3 34 544) s m args below meth c D cA B0 4 (booR o S A sl an da dr kn h) 27 (lv_args 0 [.ref o, .int x1, .int x2, .int x3]) [.int (bI t1), .ref o] h 0 0 := by
    intro t1 ht1
    refine thr1_ok X E M ⟨Nat.le_of_ble_eq_true rfl, Nat.le_of_ble_eq_true rfl⟩ ⟨Nat.le_of_ble_eq_true rfl, Nat.le_of_ble_eq_true rfl⟩ (Nat.le_of_ble_eq_true rfl) (dk rfl) (fun h1 M1 F1 => ?_)
    cases hb : t1 with
    | true =>
      refine br_ok X (dk rfl) rfl (show ((30 : Nat) : Int) + 43 = ((73 : Nat) : Int) from rfl) (fun _ => ?_) (fun q => absurd bI_t q)
      refine fst1_ok X (dk rfl) rfl ?_
      exact reti_ok X hr hlk (bI_n false) (dk rfl) ⟨⟨false, rfl⟩, ⟨_, M1⟩, F1⟩ (Nat.zero_le _) (Nat.zero_le _)
    | false =>
      obtain ⟨⟨j1, hj1, rfl⟩, ⟨j2, hj2, rfl⟩, ⟨j3, hj3, rfl⟩⟩ := ht1 hb
      obtain ⟨ss, s1, s2, s3⟩ := M1.slot
      obtain ⟨as, a1, a2, a3⟩ := M1.ans
      obtain ⟨b1, y1, e1, f1, g1, w1, n1⟩ := a3 j1 hj1
      obtain ⟨b2, y2, e2, f2, g2, w2, n2⟩ := s3 j2 hj2
      have ly2 : (y2.map vI).length = y2.length := List.length_map _
      obtain ⟨b3, y3, e3, f3, g3, w3, n3⟩ := s3 j3 hj3
      have ly3 : (y3.map vI).length = y3.length := List.length_map _
      refine br_ok X (dk rfl) rfl (show ((30 : Nat) : Int) + 43 = ((73 : Nat) : Int) from rfl) (fun q => absurd q bI_f) (fun _ => ?_)
      repeat refine fst1_ok X (dk rfl) rfl ?_
      refine getf_ok X flX10_16 (dk rfl) M1.obj rfl ?_
      refine fst1_ok X (dk rfl) rfl ?_
      refine lda_ok X (dk rfl) a2 e1 (by omega) ?_
      repeat refine fst1_ok X (dk rfl) rfl ?_
      refine getf_ok X flX10_11 (dk rfl) M1.obj rfl ?_
      refine fst1_ok X (dk rfl) rfl ?_
      refine ldr_ok X (dk rfl) s2 e2 (by omega) ?_
      have ul2 : (usedL y1 y2).length ≤ 256 := by have := usedL_len y1 (M := 16) (fun z hz => (w1.2 z hz).2) (by omega) y2; omega
      have ul3 : (usedL y1 y3).length ≤ 256 := by have := usedL_len y1 (M := 16) (fun z hz => (w1.2 z hz).2) (by omega) y3; omega
      refine callS_ok (av := [.ref b1, .ref b2]) (r := []) X E (c_used h1 g1 g2 (by omega) (by rw [w1.1]; omega) w2.lt (fun z hz hz10 => by rw [w1.1]; rcases w2.2 z hz with q | q <;> omega) (by omega)) lkX10_used mlX10_120 lsX10_used ⟨Nat.le_of_ble_eq_true rfl, Nat.le_of_ble_eq_true rfl⟩ ⟨by show 0 + (1 + y2.length) ≤ 34; omega, by show 0 + ((usedL y1 y2).length + y2.length) ≤ 544; omega⟩ (Nat.le_of_ble_eq_true rfl) (dk rfl) ?_
      rintro v h4 ⟨q, rfl, hq, hBq, XQ, hQ⟩
      refine WS.widen (k' := 17) (n' := 272) (by show 0 + (1 + y2.length) ≤ 17; omega) (by show 0 + ((usedL y1 y2).length + y2.length) ≤ 272; omega) ?_
      have M2 := M1.ext XQ
      repeat refine fst1_ok X (dk rfl) rfl ?_
      refine getf_ok X flX10_16 (dk rfl) M2.obj rfl ?_
      refine fst1_ok X (dk rfl) rfl ?_
      refine lda_ok X (dk rfl) (XQ _ _ a2) e1 (by omega) ?_
      repeat refine fst1_ok X (dk rfl) rfl ?_
      refine getf_ok X flX10_11 (dk rfl) M2.obj rfl ?_
      refine fst1_ok X (dk rfl) rfl ?_
      refine ldr_ok X (dk rfl) (XQ _ _ s2) e3 (by omega) ?_
      refine callS_ok (av := [.ref b1, .ref b3]) (r := [.ref q]) X E (c_used h4 (g1.ext XQ) (XQ _ _ g3) (by omega) (by rw [w1.1]; omega) w3.lt (fun z hz hz10 => by rw [w1.1]; rcases w3.2 z hz with q | q <;> omega) (by omega)) lkX10_used mlX10_120 lsX10_used ⟨Nat.le_of_ble_eq_true rfl, Nat.le_of_ble_eq_true rfl⟩ ⟨by show 17 + (1 + y3.length) ≤ 34; omega, by show 272 + ((usedL y1 y3).length + y3.length) ≤ 544; omega⟩ (Nat.le_of_ble_eq_true rfl) (dk rfl) ?_
      rintro v h5 ⟨q5, rfl, hq5, hBq5, XQ5, hQ5⟩
      refine WS.widen (k' := 34) (n' := 544) (by show 17 + (1 + y3.length) ≤ 34; omega) (by show 272 + ((usedL y1 y3).length + y3.length) ≤ 544; omega) ?_
      have tU2 := TW.used (rows := y1) (fun z hz => (w1.2 z hz).1) (by rw [w1.1]; omega) w2
      have tU3 := TW.used (rows := y1) (fun z hz => (w1.2 z hz).1) (by rw [w1.1]; omega) w3
      refine callS_ok (av := [.ref q, .ref q5]) (r := []) X E (c_same h5 (XQ5 _ _ hQ) hQ5 (by omega) (by omega) tU2.lt tU3.lt) lkX10_same mlX10_54 lsX10_same ⟨Nat.le_of_ble_eq_true rfl, Nat.le_of_ble_eq_true rfl⟩ ⟨Nat.le_of_ble_eq_true rfl, Nat.le_of_ble_eq_true rfl⟩ (Nat.le_of_ble_eq_true rfl) (dk rfl) ?_
      rintro v h6 ⟨rfl, rfl⟩
      rw [ite_bI]
      cases hz : decide (usedL y1 y2 = usedL y1 y3) with
      | false =>
        refine br_ok X (dk rfl) rfl (show ((66 : Nat) : Int) + 7 = ((73 : Nat) : Int) from rfl) (fun _ => ?_) (fun q => absurd bI_f' q)
        refine fst1_ok X (dk rfl) rfl ?_
        exact reti_ok X hr hlk (bI_n false) (dk rfl) ⟨⟨false, rfl⟩, ⟨_, (M2.ext XQ5)⟩, F1.trans (Fr.ext (XQ.trans XQ5))⟩ (Nat.le_of_ble_eq_true rfl) (Nat.le_of_ble_eq_true rfl)
      | true =>
        refine br_ok X (dk rfl) rfl (show ((66 : Nat) : Int) + 7 = ((73 : Nat) : Int) from rfl) (fun q => absurd q bI_t) (fun _ => ?_)
        refine fst1_ok X (dk rfl) rfl ?_
        refine br_ok X (dk rfl) rfl (show ((70 : Nat) : Int) + 4 = ((74 : Nat) : Int) from rfl) (fun _ => ?_) (fun q => absurd trivial q)
        exact reti_ok X hr hlk (bI_n true) (dk rfl) ⟨⟨true, rfl⟩, ⟨_, (M2.ext XQ5)⟩, F1.trans (Fr.ext (XQ.trans XQ5))⟩ (Nat.le_of_ble_eq_true rfl) (Nat.le_of_ble_eq_true rfl)
  iterate 2 refine fst1_ok X (dk rfl) rfl ?_
  refine isAnswer_ok X E mlX10_135 ⟨Nat.le_of_ble_eq_true rfl, Nat.le_of_ble_eq_true rfl⟩ ⟨Nat.le_of_ble_eq_true rfl, Nat.le_of_ble_eq_true rfl⟩ (Nat.le_of_ble_eq_true rfl) (dk rfl) (fun mid1b0 mid1h0 mid1n0 => ?_)
  cases mid1b0 with
  | false =>
    refine br_ok X (dk rfl) rfl (show ((5 : Nat) : Int) + 17 = ((22 : Nat) : Int) from rfl) (fun _ => ?_) (fun q => absurd bI_f' q)
    refine fst1_ok X (dk rfl) rfl ?_
    refine br_ok X (dk rfl) rfl (show ((23 : Nat) : Int) + 4 = ((27 : Nat) : Int) from rfl) (fun _ => ?_) (fun q => absurd trivial q)
    exact mid1 true (fun z => by cases z)
  | true =>
    refine br_ok X (dk rfl) rfl (show ((5 : Nat) : Int) + 17 = ((22 : Nat) : Int) from rfl) (fun q => absurd q bI_t) (fun _ => ?_)
    iterate 1 refine fst1_ok X (dk rfl) rfl ?_
    refine isSlot_ok X E mlX10_95 ⟨Nat.le_of_ble_eq_true rfl, Nat.le_of_ble_eq_true rfl⟩ ⟨Nat.le_of_ble_eq_true rfl, Nat.le_of_ble_eq_true rfl⟩ (Nat.le_of_ble_eq_true rfl) (dk rfl) (fun mid1b1 mid1h1 mid1n1 => ?_)
    cases mid1b1 with
    | false =>
      refine br_ok X (dk rfl) rfl (show ((12 : Nat) : Int) + 10 = ((22 : Nat) : Int) from rfl) (fun _ => ?_) (fun q => absurd bI_f' q)
      refine fst1_ok X (dk rfl) rfl ?_
      refine br_ok X (dk rfl) rfl (show ((23 : Nat) : Int) + 4 = ((27 : Nat) : Int) from rfl) (fun _ => ?_) (fun q => absurd trivial q)
      exact mid1 true (fun z => by cases z)
    | true =>
      refine br_ok X (dk rfl) rfl (show ((12 : Nat) : Int) + 10 = ((22 : Nat) : Int) from rfl) (fun q => absurd q bI_t) (fun _ => ?_)
      iterate 1 refine fst1_ok X (dk rfl) rfl ?_
      refine isSlot_ok X E mlX10_95 ⟨Nat.le_of_ble_eq_true rfl, Nat.le_of_ble_eq_true rfl⟩ ⟨Nat.le_of_ble_eq_true rfl, Nat.le_of_ble_eq_true rfl⟩ (Nat.le_of_ble_eq_true rfl) (dk rfl) (fun mid1b2 mid1h2 mid1n2 => ?_)
      cases mid1b2 with
      | false =>
        refine br_ok X (dk rfl) rfl (show ((19 : Nat) : Int) + 7 = ((26 : Nat) : Int) from rfl) (fun q => absurd q bI_f) (fun _ => ?_)
        refine fst1_ok X (dk rfl) rfl ?_
        refine br_ok X (dk rfl) rfl (show ((23 : Nat) : Int) + 4 = ((27 : Nat) : Int) from rfl) (fun _ => ?_) (fun q => absurd trivial q)
        exact mid1 true (fun z => by cases z)
      | true =>
        refine br_ok X (dk rfl) rfl (show ((19 : Nat) : Int) + 7 = ((26 : Nat) : Int) from rfl) (fun _ => ?_) (fun q => absurd bI_t q)
        refine fst1_ok X (dk rfl) rfl ?_
        exact mid1 false (fun _ => ⟨mid1h0 rfl, mid1h1 rfl, mid1h2 rfl⟩)
set_option maxHeartbeats 4000000 in
theorem RF.c_isSo (h : AH) (M : MD h o S A sl an da dr kn th) (x1 x2 : Int32) : CT la D cA B0 pa yX10_isSo cX10_isSo 9 (some .boolean) (rmD 5 137 2184) [.ref o, .int x1, .int x2] h (booR o S A sl an da dr kn h) := by
  refine CT_of (by decide +kernel) (Nat.le_of_ble_eq_true rfl) ?_
  intro p e s m args below meth c X E hr hlk hnm
  have dk : ∀ {pc : Nat} {q : Instr × Nat}, lkd DX10_isSo pc = some q → decode cX10_isSo pc = .ok q := lkd_ok DX10_isSo_ok
  have mid2 : ∀ t1 t2 : Bool, (t1 = false → inN 3 x1) → (t2 = false → inN 2 x2) → WR p la e (rmD 5 137 2184) s m args below meth c D cA B0 9 (booR o S A sl an da dr kn h) 27 (lv_args 0 [.ref o, .int x1, .int x2]) [.int (bI t2), .int (bI t1), .ref o] h 0 0 := by
    intro t1 t2 ht1 ht2
    refine thr2_ok X E M ⟨Nat.le_of_ble_eq_true rfl, Nat.le_of_ble_eq_true rfl⟩ ⟨Nat.le_of_ble_eq_true rfl, Nat.le_of_ble_eq_true rfl⟩ (Nat.le_of_ble_eq_true rfl) (dk rfl) (fun h1 M1 F1 => ?_)
    cases hb : (t1 || t2) with
    | true =>
      refine br_ok X (dk rfl) rfl (show ((30 : Nat) : Int) + 5 = ((35 : Nat) : Int) from rfl) (fun q => absurd q bI_t) (fun _ => ?_)
      refine fst1_ok X (dk rfl) rfl ?_
      exact reti_ok X hr hlk (bI_n false) (dk rfl) ⟨⟨false, rfl⟩, ⟨_, M1⟩, F1⟩ (Nat.zero_le _) (Nat.zero_le _)
    | false =>
      refine br_ok X (dk rfl) rfl (show ((30 : Nat) : Int) + 5 = ((35 : Nat) : Int) from rfl) (fun _ => ?_) (fun q => absurd bI_f' q)
      obtain ⟨hb1, hb2⟩ := Bool.or_eq_false_iff.mp hb
      obtain ⟨j1, hj1, rfl⟩ := ht1 hb1
      obtain ⟨j2, hj2, rfl⟩ := ht2 hb2
      obtain ⟨ss, s1, s2, s3⟩ := M1.slot
      obtain ⟨as, a1, a2, a3⟩ := M1.ans
      obtain ⟨b1, y1, e1, f1, g1, w1, n1⟩ := a3 j1 hj1
      repeat refine fst1_ok X (dk rfl) rfl ?_
      refine getf_ok X flX10_16 (dk rfl) M1.obj rfl ?_
      refine fst1_ok X (dk rfl) rfl ?_
      refine lda_ok X (dk rfl) a2 e1 (by omega) ?_
      have bl : y1.length = 8 := w1.1
      obtain ⟨as1, as2, as3, as4⟩ := g1.row
      iterate 2 refine fst1_ok X (dk rfl) rfl ?_
      refine br_ok X (dk rfl) rfl (show ((43 : Nat) : Int) + 21 = ((64 : Nat) : Int) from rfl) (fun _ => ?_) (fun _ => ?_)
      · have loop : ∀ (d i : Nat), d = 8 - i → i ≤ 8 → ∀ (z : Int32) (l : List (Nat × Value)), lsel l [7, 6, 5, 4] = [(7, vI i), (6, vI 8), (5, .ref b1), (4, .int z)] → WR p la e (rmD 5 137 2184) s m args below meth c D cA B0 9 (booR o S A sl an da dr kn h) 78 l [] h1 0 0 := by
          intro d
          induction d with
          | zero =>
            intro i hd hi z l hl
            have hi2 : i = 8 := by omega
            subst hi2
            refine WS.sel [7, 6, 5, 4] hl ?_
            repeat refine fst1_ok X (dk rfl) rfl ?_
            refine br_ok X (dk rfl) rfl (show ((82 : Nat) : Int) + 40 = ((122 : Nat) : Int) from rfl) (fun _ => ?_) (fun c1 => absurd (Int32.le_refl _) c1)
            repeat refine fst1_ok X (dk rfl) rfl ?_
            refine callS_ok (av := [.int z]) (r := []) X E (c_ones h1 z) lkX10_ones mlX10_128 lsX10_ones ⟨Nat.le_of_ble_eq_true rfl, Nat.le_of_ble_eq_true rfl⟩ ⟨Nat.le_of_ble_eq_true rfl, Nat.le_of_ble_eq_true rfl⟩ (Nat.le_of_ble_eq_true rfl) (dk rfl) ?_
            rintro v h3 ⟨rfl, rfl⟩
            refine fst1_ok X (dk rfl) rfl ?_
            refine br_ok X (dk rfl) rfl (show ((129 : Nat) : Int) + 7 = ((136 : Nat) : Int) from rfl) (fun _ => ?_) (fun _ => ?_)
            · refine fst1_ok X (dk rfl) rfl ?_
              exact reti_ok X hr hlk (bI_n false) (dk rfl) ⟨⟨false, rfl⟩, ⟨_, M1⟩, F1⟩ (Nat.le_of_ble_eq_true rfl) (Nat.le_of_ble_eq_true rfl)
            · refine fst1_ok X (dk rfl) rfl ?_
              refine br_ok X (dk rfl) rfl (show ((133 : Nat) : Int) + 4 = ((137 : Nat) : Int) from rfl) (fun _ => ?_) (fun q => absurd trivial q)
              exact reti_ok X hr hlk (bI_n true) (dk rfl) ⟨⟨true, rfl⟩, ⟨_, M1⟩, F1⟩ (Nat.le_of_ble_eq_true rfl) (Nat.le_of_ble_eq_true rfl)
          | succ d ih =>
            intro i hd hi z l hl
            obtain ⟨c5, z5, i5, i6, i7⟩ := as4 i (by omega)
            have t5 := w1.2 z5 (List.mem_of_getElem? i6)
            obtain ⟨x, hx⟩ : ∃ x, z5[0]? = some x := ⟨z5[0]'t5.1.pos, by simp⟩
            have f2 : Value.int (nI i + Int32.ofInt 1) = vI (i + 1) := congrArg Value.int (by rw [nI_1', nI_add])
            have go9 : ∀ (w z : Int32) (l : List (Nat × Value)), lsel l [7, 6, 5] = [(7, vI i), (6, vI 8), (5, .ref b1)] → WR p la e (rmD 5 137 2184) s m args below meth c D cA B0 9 (booR o S A sl an da dr kn h) 113 l [.int w, .int z] h1 0 0 := by
              intro w z l hl
              refine WS.sel [7, 6, 5] hl ?_
              repeat refine fst1_ok X (dk rfl) rfl ?_
              refine br_ok X (dk rfl) rfl (show ((119 : Nat) : Int) + (-41) = ((78 : Nat) : Int) from rfl) (fun _ => ?_) (fun q => absurd trivial q)
              refine WS.sel (l' := [(7, vI (i + 1)), (6, vI 8), (5, .ref b1), (4, .int (z ||| w))]) [7, 6, 5, 4] (by rw [← f2]; rfl) ?_
              exact ih (i + 1) (by omega) (by omega) _ _ rfl
            refine WS.sel [7, 6, 5, 4] hl ?_
            repeat refine fst1_ok X (dk rfl) rfl ?_
            refine br_ok X (dk rfl) rfl (show ((82 : Nat) : Int) + 40 = ((122 : Nat) : Int) from rfl) (fun c1 => absurd c1 (nI_ge (a := i) (b := 8) (by omega) (by omega))) (fun _ => ?_)
            repeat refine fst1_ok X (dk rfl) rfl ?_
            refine ldr_ok X (dk rfl) as3 i5 (by omega) ?_
            repeat refine fst1_ok X (dk rfl) rfl ?_
            refine ald_ok X (Or.inl ⟨rfl, rfl⟩) (dk rfl) i7 (inA_nI (j := 0) (by omega) (IA_get hx)) ?_
            refine fst1_ok X (dk rfl) rfl ?_
            refine br_ok X (dk rfl) rfl (show ((100 : Nat) : Int) + 12 = ((112 : Nat) : Int) from rfl) (fun _ => ?_) (fun _ => ?_)
            · refine fst1_ok X (dk rfl) rfl ?_
              exact go9 _ _ _ rfl
            · repeat refine fst1_ok X (dk rfl) rfl ?_
              refine ald_ok X (Or.inl ⟨rfl, rfl⟩) (dk rfl) i7 (inA_nI (j := 0) (by omega) (IA_get hx)) ?_
              refine fst1_ok X (dk rfl) rfl ?_
              refine br_ok X (dk rfl) rfl (show ((109 : Nat) : Int) + 4 = ((113 : Nat) : Int) from rfl) (fun _ => ?_) (fun q => absurd trivial q)
              exact go9 _ _ _ rfl
        iterate 5 refine fst1_ok X (dk rfl) rfl ?_
        refine alen_ok X (by decide) (dk rfl) as3 ?_
        rw [show (as1.map Value.ref).length = 8 by rw [List.length_map]; omega]
        iterate 3 refine fst1_ok X (dk rfl) rfl ?_
        exact loop 8 0 rfl (Nat.zero_le _) _ _ rfl
      · repeat refine fst1_ok X (dk rfl) rfl ?_
        refine callS_ok (av := [.ref b1, .ref b1]) (r := []) X E (c_withBehind h1 g1 g1 w1 w1) lkX10_withBehind mlX10_149 lsX10_withBehind ⟨Nat.le_of_ble_eq_true rfl, Nat.le_of_ble_eq_true rfl⟩ ⟨Nat.le_of_ble_eq_true rfl, Nat.le_of_ble_eq_true rfl⟩ (Nat.le_of_ble_eq_true rfl) (dk rfl) ?_
        rintro v h2 ⟨N, rfl, hN, hBN, XN, nN⟩
        have oN : AW (y1.map (usedL y1)) := by
          refine ⟨by rw [List.length_map]; exact w1.1, fun z hz => ?_⟩
          obtain ⟨t, ht, rfl⟩ := List.mem_map.mp hz
          have h5 := w1.2 t ht
          refine ⟨TW.used (fun z hz => (w1.2 z hz).1) (by rw [w1.1]; omega) h5.1, ?_⟩
          have := usedL_len y1 (M := 16) (fun z hz => (w1.2 z hz).2) (by omega) t
          omega
        repeat refine fst1_ok X (dk rfl) rfl ?_
        refine callS_ok (av := [.ref N, .ref b1]) (r := []) X E (c_unlikeOf h2 nN (g1.ext XN) oN w1.aw) lkX10_unlikeOf mlX10_214 lsX10_unlikeOf ⟨Nat.le_of_ble_eq_true rfl, Nat.le_of_ble_eq_true rfl⟩ ⟨Nat.le_of_ble_eq_true rfl, Nat.le_of_ble_eq_true rfl⟩ (Nat.le_of_ble_eq_true rfl) (dk rfl) ?_
        rintro v h3 ⟨⟨u, rfl, -, -⟩, rfl⟩
        have fin9 : ∀ (x : Int32) (l : List (Nat × Value)), WR p la e (rmD 5 137 2184) s m args below meth c D cA B0 9 (booR o S A sl an da dr kn h) 55 l [.int x] h3 137 2184 := by
          intro x l
          refine br_ok X (dk rfl) rfl (show ((55 : Nat) : Int) + 7 = ((62 : Nat) : Int) from rfl) (fun _ => ?_) (fun _ => ?_)
          · refine fst1_ok X (dk rfl) rfl ?_
            exact reti_ok X hr hlk (bI_n false) (dk rfl) ⟨⟨false, rfl⟩, ⟨_, (M1.ext XN)⟩, F1.trans (Fr.ext XN)⟩ (Nat.le_of_ble_eq_true rfl) (Nat.le_of_ble_eq_true rfl)
          · refine fst1_ok X (dk rfl) rfl ?_
            refine br_ok X (dk rfl) rfl (show ((59 : Nat) : Int) + 4 = ((63 : Nat) : Int) from rfl) (fun _ => ?_) (fun q => absurd trivial q)
            exact reti_ok X hr hlk (bI_n true) (dk rfl) ⟨⟨true, rfl⟩, ⟨_, (M1.ext XN)⟩, F1.trans (Fr.ext XN)⟩ (Nat.le_of_ble_eq_true rfl) (Nat.le_of_ble_eq_true rfl)
        cases u with
        | none => exact fin9 _ _
        | some u => exact fin9 _ _
  have mid1 : ∀ t1 : Bool, (t1 = false → inN 3 x1) → WR p la e (rmD 5 137 2184) s m args below meth c D cA B0 9 (booR o S A sl an da dr kn h) 13 (lv_args 0 [.ref o, .int x1, .int x2]) [.int (bI t1), .ref o] h 0 0 := by
    intro t1 ht1
    have mid2 := fun t2 => mid2 t1 t2 ht1
    iterate 1 refine fst1_ok X (dk rfl) rfl ?_
    have mid2T : ∀ l : List (Nat × Value), l = (lv_args 0 [.ref o, .int x1, .int x2]) → WR p la e (rmD 5 137 2184) s m args below meth c D cA B0 9 (booR o S A sl an da dr kn h) 22 l [.int (bI t1), .ref o] h 0 0 := by
      intro l hl
      rw [hl]
      refine fst1_ok X (dk rfl) rfl ?_
      refine br_ok X (dk rfl) rfl (show ((23 : Nat) : Int) + 4 = ((27 : Nat) : Int) from rfl) (fun _ => ?_) (fun q => absurd trivial q)
      exact mid2 true (fun z => by cases z)
    refine br_ok X (dk rfl) rfl (show ((14 : Nat) : Int) + 8 = ((22 : Nat) : Int) from rfl) (fun _ => mid2T _ rfl) (fun c1 => ?_)
    iterate 2 refine fst1_ok X (dk rfl) rfl ?_
    refine br_ok X (dk rfl) rfl (show ((19 : Nat) : Int) + 7 = ((26 : Nat) : Int) from rfl) (fun c2 => ?_) (fun _ => mid2T _ rfl)
    refine fst1_ok X (dk rfl) rfl ?_
    exact mid2 false (fun _ => inN_le (K := 1) (by omega) c1 (by rw [show nI 1 = Int32.ofInt 1 by decide +kernel]; exact c2))
  iterate 2 refine fst1_ok X (dk rfl) rfl ?_
  refine isAnswer_ok X E mlX10_135 ⟨Nat.le_of_ble_eq_true rfl, Nat.le_of_ble_eq_true rfl⟩ ⟨Nat.le_of_ble_eq_true rfl, Nat.le_of_ble_eq_true rfl⟩ (Nat.le_of_ble_eq_true rfl) (dk rfl) (fun mid1b0 mid1h0 mid1n0 => ?_)
  cases mid1b0 with
  | false =>
    refine br_ok X (dk rfl) rfl (show ((5 : Nat) : Int) + 7 = ((12 : Nat) : Int) from rfl) (fun q => absurd q bI_f) (fun _ => ?_)
    refine fst1_ok X (dk rfl) rfl ?_
    refine br_ok X (dk rfl) rfl (show ((9 : Nat) : Int) + 4 = ((13 : Nat) : Int) from rfl) (fun _ => ?_) (fun q => absurd trivial q)
    exact mid1 true (fun z => by cases z)
  | true =>
    refine br_ok X (dk rfl) rfl (show ((5 : Nat) : Int) + 7 = ((12 : Nat) : Int) from rfl) (fun _ => ?_) (fun q => absurd bI_t q)
    refine fst1_ok X (dk rfl) rfl ?_
    exact mid1 false (fun _ => mid1h0 rfl)
set_option maxHeartbeats 4000000 in
theorem RF.c_told_ (h : AH) (M : MD h o S A sl an da dr kn th) (x1 : Int32) : CT la D cA B0 pa yX10_told_ cX10_told_ 7 (some .int) (rmD 4 24 24) [.ref o, .int x1] h (intR o S A sl an da dr kn h) := by
  refine CT_of (by decide +kernel) (Nat.le_of_ble_eq_true rfl) ?_
  intro p e s m args below meth c X E hr hlk hnm
  have dk : ∀ {pc : Nat} {q : Instr × Nat}, lkd DX10_told_ pc = some q → decode cX10_told_ pc = .ok q := lkd_ok DX10_told__ok
  obtain ⟨ss, s1, s2, s3⟩ := M.slot
  obtain ⟨as, a1, a2, a3⟩ := M.ans
  have loopS : ∀ (d i : Nat), d = 6 - i → i ≤ 6 → ∀ (z : Int32) (l : List (Nat × Value)), lsel l [5, 4, 3, 2] = [(5, vI i), (4, vI 6), (3, .ref S), (2, .int z)] → WR p la e (rmD 4 24 24) s m args below meth c D cA B0 7 (intR o S A sl an da dr kn h) 19 l [] h 0 0 := by
    intro d
    induction d with
    | zero =>
      intro i hd hi z l hl
      have hi2 : i = 6 := by omega
      subst hi2
      refine WS.sel [5, 4, 3, 2] hl ?_
      repeat refine fst1_ok X (dk rfl) rfl ?_
      refine br_ok X (dk rfl) rfl (show ((23 : Nat) : Int) + 21 = ((44 : Nat) : Int) from rfl) (fun _ => ?_) (fun c1 => absurd (Int32.le_refl _) c1)
      refine br_ok X (dk rfl) rfl (show ((44 : Nat) : Int) + 45 = ((89 : Nat) : Int) from rfl) (fun _ => ?_) (fun q => absurd trivial q)
      repeat refine fst1_ok X (dk rfl) rfl ?_
      exact reti_ok X hr hlk rfl (dk rfl) ⟨⟨_, rfl⟩, (MD.mi M)⟩ (Nat.zero_le _) (Nat.zero_le _)
    | succ d ih =>
      intro i hd hi z l hl
      obtain ⟨b, x, e1, e2, e3, e4, e5⟩ := s3 i (by omega)
      have f2 : Value.int (nI i + Int32.ofInt 1) = vI (i + 1) := congrArg Value.int (by rw [nI_1', nI_add])
      refine WS.sel [5, 4, 3, 2] hl ?_
      repeat refine fst1_ok X (dk rfl) rfl ?_
      refine br_ok X (dk rfl) rfl (show ((23 : Nat) : Int) + 21 = ((44 : Nat) : Int) from rfl) (fun c1 => absurd c1 (nI_ge (a := i) (b := 6) (by omega) (by omega))) (fun _ => ?_)
      repeat refine fst1_ok X (dk rfl) rfl ?_
      refine ldr_ok X (dk rfl) s2 e1 (by omega) ?_
      repeat refine fst1_ok X (dk rfl) rfl ?_
      refine alen_ok X (by decide) (dk rfl) e3 ?_
      generalize nI (x.map vI).length = w
      repeat refine fst1_ok X (dk rfl) rfl ?_
      refine br_ok X (dk rfl) rfl (show ((41 : Nat) : Int) + (-22) = ((19 : Nat) : Int) from rfl) (fun _ => ?_) (fun q => absurd trivial q)
      refine WS.sel (l' := [(5, vI (i + 1)), (4, vI 6), (3, .ref S), (2, .int (z + w))]) [5, 4, 3, 2] (by rw [← f2]; rfl) ?_
      exact ih (i + 1) (by omega) (by omega) _ _ rfl
  have loopA : ∀ (d i : Nat), d = 3 - i → i ≤ 3 → ∀ (z : Int32) (hh : AH) (l : List (Nat × Value)), lsel l [5, 4, 3, 2] = [(5, vI i), (4, vI 3), (3, .ref A), (2, .int z)] → Ext h hh → WR p la e (rmD 4 24 24) s m args below meth c D cA B0 7 (intR o S A sl an da dr kn h) 59 l [] hh (8 * i) (8 * i) := by
    intro d
    induction d with
    | zero =>
      intro i hd hi z hh l hl XX
      have hi2 : i = 3 := by omega
      subst hi2
      refine WS.sel [5, 4, 3, 2] hl ?_
      repeat refine fst1_ok X (dk rfl) rfl ?_
      refine br_ok X (dk rfl) rfl (show ((63 : Nat) : Int) + 26 = ((89 : Nat) : Int) from rfl) (fun _ => ?_) (fun c1 => absurd (Int32.le_refl _) c1)
      repeat refine fst1_ok X (dk rfl) rfl ?_
      exact reti_ok X hr hlk rfl (dk rfl) ⟨⟨_, rfl⟩, ⟨_, M.ext XX⟩, Fr.ext XX⟩ (Nat.le_of_ble_eq_true rfl) (Nat.le_of_ble_eq_true rfl)
    | succ d ih =>
      intro i hd hi z hh l hl XX
      obtain ⟨b, x, e1, e2, e3, e4, e5⟩ := a3 i (by omega)
      have f2 : Value.int (nI i + Int32.ofInt 1) = vI (i + 1) := congrArg Value.int (by rw [nI_1', nI_add])
      refine WS.sel [5, 4, 3, 2] hl ?_
      repeat refine fst1_ok X (dk rfl) rfl ?_
      refine br_ok X (dk rfl) rfl (show ((63 : Nat) : Int) + 26 = ((89 : Nat) : Int) from rfl) (fun c1 => absurd c1 (nI_ge (a := i) (b := 3) (by omega) (by omega))) (fun _ => ?_)
      repeat refine fst1_ok X (dk rfl) rfl ?_
      refine lda_ok X (dk rfl) (XX _ _ a2) e1 (by omega) ?_
      repeat refine fst1_ok X (dk rfl) rfl ?_
      refine callS_ok (av := [.ref b]) (r := [.int z]) X E (c_movedBy hh (e3.ext XX) e4) lkX10_movedBy mlX10_141 lsX10_movedBy ⟨Nat.le_of_ble_eq_true rfl, Nat.le_of_ble_eq_true rfl⟩ ⟨by show 8 * i + 8 ≤ 24; omega, by show 8 * i + 8 ≤ 24; omega⟩ (Nat.le_of_ble_eq_true rfl) (dk rfl) ?_
      rintro v h2 ⟨rfl, E2⟩
      refine callS_ok (av := [vI (movedN x 8)]) (r := [.int z]) X E (c_ones h2 (nI (movedN x 8))) lkX10_ones mlX10_128 lsX10_ones ⟨Nat.le_of_ble_eq_true rfl, Nat.le_of_ble_eq_true rfl⟩ ⟨by show 8 * i + 8 ≤ 24; omega, by show 8 * i + 8 ≤ 24; omega⟩ (Nat.le_of_ble_eq_true rfl) (dk rfl) ?_
      rintro v h3 ⟨rfl, rfl⟩
      generalize bcF (nI (movedN x 8)) = w
      repeat refine fst1_ok X (dk rfl) rfl ?_
      refine br_ok X (dk rfl) rfl (show ((86 : Nat) : Int) + (-27) = ((59 : Nat) : Int) from rfl) (fun _ => ?_) (fun q => absurd trivial q)
      refine WS.sel (l' := [(5, vI (i + 1)), (4, vI 3), (3, .ref A), (2, .int (z + w))]) [5, 4, 3, 2] (by rw [← f2]; rfl) ?_
      refine WS.widen (k' := 8 * (i + 1)) (n' := 8 * (i + 1)) (by show 8 * i + 8 ≤ 8 * (i + 1); omega) (by show 8 * i + 8 ≤ 8 * (i + 1); omega) ?_
      exact ih (i + 1) (by omega) (by omega) _ _ _ rfl (XX.trans E2)
  repeat refine fst1_ok X (dk rfl) rfl ?_
  refine br_ok X (dk rfl) rfl (show ((4 : Nat) : Int) + 43 = ((47 : Nat) : Int) from rfl) (fun _ => ?_) (fun _ => ?_)
  · repeat refine fst1_ok X (dk rfl) rfl ?_
    refine getf_ok X flX10_16 (dk rfl) M.obj rfl ?_
    iterate 2 refine fst1_ok X (dk rfl) rfl ?_
    refine alen_ok X (by decide) (dk rfl) a2 ?_
    rw [show (as.map Value.ref).length = 3 by rw [List.length_map]; omega]
    iterate 3 refine fst1_ok X (dk rfl) rfl ?_
    exact loopA 3 0 rfl (Nat.zero_le _) _ _ _ rfl (Ext.rf h)
  · repeat refine fst1_ok X (dk rfl) rfl ?_
    refine getf_ok X flX10_11 (dk rfl) M.obj rfl ?_
    iterate 2 refine fst1_ok X (dk rfl) rfl ?_
    refine alen_ok X (by decide) (dk rfl) s2 ?_
    rw [show (ss.map Value.ref).length = 6 by rw [List.length_map]; omega]
    iterate 3 refine fst1_ok X (dk rfl) rfl ?_
    exact loopS 6 0 rfl (Nat.zero_le _) _ _ rfl
theorem RF.c_knock (h : AH) (M : MD h o S A sl an da dr kn th) : CT la D cA B0 pa yX10_knock cX10_knock 1 (some .int) (rmD 0 0 0) [.ref o] h (fun v h' => v = some (.int (kn + Int32.ofInt 1)) ∧ MI o S A sl an da dr (kn + Int32.ofInt 1) h h') := by
  refine CT_of (by decide +kernel) (Nat.le_of_ble_eq_true rfl) ?_
  intro p e s m args below meth c X E hr hlk hnm
  have dk : ∀ {pc : Nat} {q : Instr × Nat}, lkd DX10_knock pc = some q → decode cX10_knock pc = .ok q := lkd_ok DX10_knock_ok
  repeat refine fst1_ok X (dk rfl) rfl ?_
  refine putf_ok X flX10_28 ftX10_5 (Or.inl rfl) rfl rfl (dk rfl) M.obj (Nat.le_of_ble_eq_true rfl) ?_
  have M1 := M.fld da dr kn (Int32.ofInt 0)
  repeat refine fst1_ok X (dk rfl) rfl ?_
  refine getf_ok X flX10_218 (dk rfl) M1.obj rfl ?_
  repeat refine fst1_ok X (dk rfl) rfl ?_
  refine putf_ok X flX10_218 ftX10_4 (Or.inl rfl) rfl rfl (dk rfl) M1.obj (Nat.le_of_ble_eq_true rfl) ?_
  have M2 := M1.fld da dr (kn + Int32.ofInt 1) (Int32.ofInt 0)
  repeat refine fst1_ok X (dk rfl) rfl ?_
  refine getf_ok X flX10_218 (dk rfl) M2.obj rfl ?_
  exact reti_ok X hr hlk rfl (dk rfl) ⟨rfl, ⟨_, M2⟩, ((Fr.rf h).set (Or.inl rfl) _).set (Or.inl rfl) _⟩ (Nat.le_refl _) (Nat.le_refl _)
theorem RF.c_isSound (h : AH) (M : MD h o S A sl an da dr kn th) : CT la D cA B0 pa yX10_isSound cX10_isSound 1 (some .boolean) (rmD 0 0 0) [.ref o] h (booR o S A sl an da dr kn h) := by
  refine CT_of (by decide +kernel) (Nat.le_of_ble_eq_true rfl) ?_
  intro p e s m args below meth c X E hr hlk hnm
  have dk : ∀ {pc : Nat} {q : Instr × Nat}, lkd DX10_isSound pc = some q → decode cX10_isSound pc = .ok q := lkd_ok DX10_isSound_ok
  repeat refine fst1_ok X (dk rfl) rfl ?_
  refine putf_ok X flX10_28 ftX10_5 (Or.inl rfl) rfl rfl (dk rfl) M.obj (Nat.le_of_ble_eq_true rfl) ?_
  repeat refine fst1_ok X (dk rfl) rfl ?_
  exact reti_ok X hr hlk (bI_n true) (dk rfl) ⟨⟨true, rfl⟩, ⟨_, M.fld da dr kn (Int32.ofInt 0)⟩, (Fr.rf h).set (Or.inl rfl) _⟩ (Nat.le_refl _) (Nat.le_refl _)
set_option maxHeartbeats 4000000 in
theorem RF.c_house (h : AH) (M : MD h o S A sl an da dr kn th) (x1 : Int32) : CT la D cA B0 pa yX10_house cX10_house 2 (some .int) (rmD 5 24 24) [.ref o, .int x1] h (intR o S A sl an da dr kn h) := by
  refine CT_of (by decide +kernel) (Nat.le_of_ble_eq_true rfl) ?_
  intro p e s m args below meth c X E hr hlk hnm
  have dk : ∀ {pc : Nat} {q : Instr × Nat}, lkd DX10_house pc = some q → decode cX10_house pc = .ok q := lkd_ok DX10_house_ok
  have mid1 : ∀ t1 : Bool, (t1 = false → inN 5 x1) → WR p la e (rmD 5 24 24) s m args below meth c D cA B0 2 (intR o S A sl an da dr kn h) 15 (lv_args 0 [.ref o, .int x1]) [.int (bI t1), .ref o] h 0 0 := by
    intro t1 ht1
    refine thr1_ok X E M ⟨Nat.le_of_ble_eq_true rfl, Nat.le_of_ble_eq_true rfl⟩ ⟨Nat.le_of_ble_eq_true rfl, Nat.le_of_ble_eq_true rfl⟩ (Nat.le_of_ble_eq_true rfl) (dk rfl) (fun h1 M1 F1 => ?_)
    cases hb : t1 with
    | true =>
      refine br_ok X (dk rfl) rfl (show ((18 : Nat) : Int) + 7 = ((25 : Nat) : Int) from rfl) (fun q => absurd q bI_t) (fun _ => ?_)
      refine fst1_ok X (dk rfl) rfl ?_
      refine br_ok X (dk rfl) rfl (show ((22 : Nat) : Int) + 43 = ((65 : Nat) : Int) from rfl) (fun _ => ?_) (fun q => absurd trivial q)
      exact reti_ok X hr hlk rfl (dk rfl) ⟨⟨_, rfl⟩, ⟨_, M1⟩, F1⟩ (Nat.zero_le _) (Nat.zero_le _)
    | false =>
      refine br_ok X (dk rfl) rfl (show ((18 : Nat) : Int) + 7 = ((25 : Nat) : Int) from rfl) (fun _ => ?_) (fun q => absurd bI_f' q)
      obtain ⟨j1, hj1, rfl⟩ := ht1 hb
      obtain ⟨ss, s1, s2, s3⟩ := M1.slot
      obtain ⟨as, a1, a2, a3⟩ := M1.ans
      refine fst1_ok X (dk rfl) rfl ?_
      refine br_ok X (dk rfl) rfl (show ((26 : Nat) : Int) + 10 = ((36 : Nat) : Int) from rfl) (fun _ => ?_) (fun _ => ?_)
      · repeat refine fst1_ok X (dk rfl) rfl ?_
        refine br_ok X (dk rfl) rfl (show ((38 : Nat) : Int) + 10 = ((48 : Nat) : Int) from rfl) (fun _ => ?_) (fun _ => ?_)
        · repeat refine fst1_ok X (dk rfl) rfl ?_
          refine br_ok X (dk rfl) rfl (show ((50 : Nat) : Int) + 10 = ((60 : Nat) : Int) from rfl) (fun _ => ?_) (fun _ => ?_)
          · repeat refine fst1_ok X (dk rfl) rfl ?_
            refine callV_ok (ci := 12) (T := TX10) (N := 6) (av := [vI j1]) (r := []) X E (c_told_ h1 M1 (nI j1)) lkX10_told_ mlX10_221 lmX10_told_ lpX10_told_ ⟨Nat.le_of_ble_eq_true rfl, Nat.le_of_ble_eq_true rfl⟩ ⟨Nat.le_of_ble_eq_true rfl, Nat.le_of_ble_eq_true rfl⟩ rfl M1.obj (Nat.le_of_ble_eq_true rfl) (dk rfl) ?_
            rintro v h2 ⟨⟨w9, rfl⟩, I9⟩
            exact reti_ok X hr hlk rfl (dk rfl) ⟨⟨_, rfl⟩, MI.trans F1 I9⟩ (Nat.le_of_ble_eq_true rfl) (Nat.le_of_ble_eq_true rfl)
          · refine fst1_ok X (dk rfl) rfl ?_
            refine getf_ok X flX10_218 (dk rfl) M1.obj rfl ?_
            refine br_ok X (dk rfl) rfl (show ((57 : Nat) : Int) + 8 = ((65 : Nat) : Int) from rfl) (fun _ => ?_) (fun q => absurd trivial q)
            exact reti_ok X hr hlk rfl (dk rfl) ⟨⟨_, rfl⟩, ⟨_, M1⟩, F1⟩ (Nat.le_of_ble_eq_true rfl) (Nat.le_of_ble_eq_true rfl)
        · refine fst1_ok X (dk rfl) rfl ?_
          refine getf_ok X flX10_85 (dk rfl) M1.obj rfl ?_
          refine br_ok X (dk rfl) rfl (show ((45 : Nat) : Int) + 20 = ((65 : Nat) : Int) from rfl) (fun _ => ?_) (fun q => absurd trivial q)
          exact reti_ok X hr hlk rfl (dk rfl) ⟨⟨_, rfl⟩, ⟨_, M1⟩, F1⟩ (Nat.le_of_ble_eq_true rfl) (Nat.le_of_ble_eq_true rfl)
      · refine fst1_ok X (dk rfl) rfl ?_
        refine getf_ok X flX10_82 (dk rfl) M1.obj rfl ?_
        refine br_ok X (dk rfl) rfl (show ((33 : Nat) : Int) + 32 = ((65 : Nat) : Int) from rfl) (fun _ => ?_) (fun q => absurd trivial q)
        exact reti_ok X hr hlk rfl (dk rfl) ⟨⟨_, rfl⟩, ⟨_, M1⟩, F1⟩ (Nat.le_of_ble_eq_true rfl) (Nat.le_of_ble_eq_true rfl)
  iterate 2 refine fst1_ok X (dk rfl) rfl ?_
  have mid1T : ∀ l : List (Nat × Value), l = (lv_args 0 [.ref o, .int x1]) → WR p la e (rmD 5 24 24) s m args below meth c D cA B0 2 (intR o S A sl an da dr kn h) 10 l [.ref o] h 0 0 := by
    intro l hl
    rw [hl]
    refine fst1_ok X (dk rfl) rfl ?_
    refine br_ok X (dk rfl) rfl (show ((11 : Nat) : Int) + 4 = ((15 : Nat) : Int) from rfl) (fun _ => ?_) (fun q => absurd trivial q)
    exact mid1 true (fun z => by cases z)
  refine br_ok X (dk rfl) rfl (show ((2 : Nat) : Int) + 8 = ((10 : Nat) : Int) from rfl) (fun _ => mid1T _ rfl) (fun c1 => ?_)
  iterate 2 refine fst1_ok X (dk rfl) rfl ?_
  refine br_ok X (dk rfl) rfl (show ((7 : Nat) : Int) + 7 = ((14 : Nat) : Int) from rfl) (fun c2 => ?_) (fun _ => mid1T _ rfl)
  refine fst1_ok X (dk rfl) rfl ?_
  exact mid1 false (fun _ => inN_le (K := 4) (by omega) c1 (by rw [show nI 4 = Int32.ofInt 4 by decide +kernel]; exact c2))
set_option maxHeartbeats 4000000 in
theorem RF.c_weight (h : AH) (M : MD h o S A sl an da dr kn th) (x1 x2 : Int32) : CT la D cA B0 pa yX10_weight cX10_weight 8 (some .int) (rmD 5 9 16) [.ref o, .int x1, .int x2] h (intR o S A sl an da dr kn h) := by
  refine CT_of (by decide +kernel) (Nat.le_of_ble_eq_true rfl) ?_
  intro p e s m args below meth c X E hr hlk hnm
  have dk : ∀ {pc : Nat} {q : Instr × Nat}, lkd DX10_weight pc = some q → decode cX10_weight pc = .ok q := lkd_ok DX10_weight_ok
  have mid1 : ∀ t1 : Bool, (t1 = false → inN 3 x1) → WR p la e (rmD 5 9 16) s m args below meth c D cA B0 8 (intR o S A sl an da dr kn h) 13 (lv_args 0 [.ref o, .int x1, .int x2]) [.int (bI t1), .ref o] h 0 0 := by
    intro t1 ht1
    refine thr1_ok X E M ⟨Nat.le_of_ble_eq_true rfl, Nat.le_of_ble_eq_true rfl⟩ ⟨Nat.le_of_ble_eq_true rfl, Nat.le_of_ble_eq_true rfl⟩ (Nat.le_of_ble_eq_true rfl) (dk rfl) (fun h1 M1 F1 => ?_)
    cases hb : t1 with
    | true =>
      refine br_ok X (dk rfl) rfl (show ((16 : Nat) : Int) + 5 = ((21 : Nat) : Int) from rfl) (fun q => absurd q bI_t) (fun _ => ?_)
      refine fst1_ok X (dk rfl) rfl ?_
      exact reti_ok X hr hlk rfl (dk rfl) ⟨⟨_, rfl⟩, ⟨_, M1⟩, F1⟩ (Nat.zero_le _) (Nat.zero_le _)
    | false =>
      refine br_ok X (dk rfl) rfl (show ((16 : Nat) : Int) + 5 = ((21 : Nat) : Int) from rfl) (fun _ => ?_) (fun q => absurd bI_f' q)
      obtain ⟨j1, hj1, rfl⟩ := ht1 hb
      obtain ⟨ss, s1, s2, s3⟩ := M1.slot
      obtain ⟨as, a1, a2, a3⟩ := M1.ans
      obtain ⟨b1, y1, e1, f1, g1, w1, n1⟩ := a3 j1 hj1
      repeat refine fst1_ok X (dk rfl) rfl ?_
      refine getf_ok X flX10_16 (dk rfl) M1.obj rfl ?_
      refine fst1_ok X (dk rfl) rfl ?_
      refine lda_ok X (dk rfl) a2 e1 (by omega) ?_
      obtain ⟨as1, as2, as3, as4⟩ := g1.row
      refine callS_ok (av := [.ref b1]) (r := []) X E (c_movedBy h1 g1 w1) lkX10_movedBy mlX10_141 lsX10_movedBy ⟨Nat.le_of_ble_eq_true rfl, Nat.le_of_ble_eq_true rfl⟩ ⟨Nat.le_of_ble_eq_true rfl, Nat.le_of_ble_eq_true rfl⟩ (Nat.le_of_ble_eq_true rfl) (dk rfl) ?_
      rintro v h2 ⟨rfl, E1⟩
      have hm := movedN_lt y1 8
      generalize movedN y1 8 = mm at hm
      obtain ⟨hc1, hc2⟩ := cnt_bc (m := mm) (by omega)
      repeat refine fst1_ok X (dk rfl) rfl ?_
      refine callS_ok (av := [vI mm]) (r := []) X E (c_ones h2 (nI mm)) lkX10_ones mlX10_128 lsX10_ones ⟨Nat.le_of_ble_eq_true rfl, Nat.le_of_ble_eq_true rfl⟩ ⟨Nat.le_of_ble_eq_true rfl, Nat.le_of_ble_eq_true rfl⟩ (Nat.le_of_ble_eq_true rfl) (dk rfl) ?_
      rintro v h3 ⟨rfl, rfl⟩
      rw [hc1]
      refine newR_ok (N := cntN mm 8) (kd := 105) X E (by decide) cl10_9 (by omega) (dk rfl) (Nat.le_of_ble_eq_true rfl) (by show 8 + 0 + cntN mm 8 ≤ 16; omega) (fun F hF hBF => ?_)
      have M2 := M1.ext E1
      have e0 : ((105, List.replicate (cntN mm 8) Value.null) : AC) = (105, filR [] (cntN mm 8)) := by rw [filR_0]
      rw [e0]
      refine WS.widen (k' := 9) (n' := 16) (Nat.le_of_ble_eq_true rfl) (by show 8 + 0 + cntN mm 8 ≤ 16; omega) ?_
      have loop : ∀ (d i : Nat), d = 8 - i → i ≤ 8 → ∀ (hh : AH) (rs : List Nat) (rows : List (List Nat)) (z : Int32) (l : List (Nat × Value)), lsel l [7, 6, 5, 4, 3, 2, 1, 0] = [(7, vI i), (6, .int z), (5, vI (cntN mm i)), (4, .ref F), (3, vI mm), (2, .int x2), (1, vI j1), (0, .ref o)] → Ext h3 hh → rs.length = cntN mm i → rows.length = rs.length → hh F = some (105, filR rs (cntN mm 8)) → (∀ (k u : Nat) (w : List Nat), rs[k]? = some u → rows[k]? = some w → hh u = some (IA w)) → (∀ w ∈ rows, TW w ∧ w.length ≤ 16) → WR p la e (rmD 5 9 16) s m args below meth c D cA B0 8 (intR o S A sl an da dr kn h) 49 l [] hh 9 16 := by
        intro d
        induction d with
        | zero =>
          intro i hd hi hh rs rows z l hl XX h1l h2l hFh hrs hro
          have hi2 : i = 8 := by omega
          subst hi2
          have M3 := M2.ext XX
          refine WS.sel [7, 6, 5, 4, 3, 2, 1, 0] hl ?_
          repeat refine fst1_ok X (dk rfl) rfl ?_
          refine br_ok X (dk rfl) rfl (show ((53 : Nat) : Int) + 53 = ((106 : Nat) : Int) from rfl) (fun _ => ?_) (fun c1 => absurd (by decide) c1)
          repeat refine fst1_ok X (dk rfl) rfl ?_
          refine br_ok X (dk rfl) rfl (show ((107 : Nat) : Int) + 11 = ((118 : Nat) : Int) from rfl) (fun _ => ?_) (fun _ => ?_)
          · repeat refine fst1_ok X (dk rfl) rfl ?_
            exact reti_ok X hr hlk rfl (dk rfl) ⟨⟨_, rfl⟩, ⟨_, M3⟩, F1.trans (Fr.ext (E1.trans XX))⟩ (Nat.le_refl _) (Nat.le_refl _)
          · have hA : Ans hh F rows := ⟨rs, h2l.symm, by rw [hFh, ← h1l, filR_end], hrs⟩
            repeat refine fst1_ok X (dk rfl) rfl ?_
            refine callS_ok (av := [.ref F]) (r := []) X E (c_sharedOf hh hA ⟨by omega, hro⟩) lkX10_sharedOf mlX10_199 lsX10_sharedOf ⟨Nat.le_of_ble_eq_true rfl, Nat.le_of_ble_eq_true rfl⟩ ⟨Nat.le_of_ble_eq_true rfl, Nat.le_of_ble_eq_true rfl⟩ (Nat.le_of_ble_eq_true rfl) (dk rfl) ?_
            rintro v h4 ⟨⟨w, rfl⟩, rfl⟩
            refine br_ok X (dk rfl) rfl (show ((115 : Nat) : Int) + 5 = ((120 : Nat) : Int) from rfl) (fun _ => ?_) (fun q => absurd trivial q)
            exact reti_ok X hr hlk rfl (dk rfl) ⟨⟨_, rfl⟩, ⟨_, M3⟩, F1.trans (Fr.ext (E1.trans XX))⟩ (Nat.le_of_ble_eq_true rfl) (Nat.le_of_ble_eq_true rfl)
        | succ d ih =>
          intro i hd hi hh rs rows z l hl XX h1l h2l hFh hrs hro
          have M3 := M2.ext XX
          obtain ⟨c5, z5, i5, i6, i7⟩ := as4 i (by rw [w1.1]; omega)
          have t5 := w1.2 z5 (List.mem_of_getElem? i6)
          have f2 : Value.int (nI i + Int32.ofInt 1) = vI (i + 1) := congrArg Value.int (by rw [nI_1', nI_add])
          have cs : cntN mm (i + 1) = cntN mm i + mm >>> i % 2 := rfl
          have cm := cnt_mono mm (a := i + 1) (b := 8) (by omega)
          refine WS.sel [7, 6, 5, 4, 3, 2, 1, 0] hl ?_
          repeat refine fst1_ok X (dk rfl) rfl ?_
          refine br_ok X (dk rfl) rfl (show ((53 : Nat) : Int) + 53 = ((106 : Nat) : Int) from rfl) (fun c1 => absurd c1 (nI_ge (a := i) (b := 8) (by omega) (by omega))) (fun _ => ?_)
          repeat refine fst1_ok X (dk rfl) rfl ?_
          rw [bit8 (by omega) (by omega)]
          rcases Nat.mod_two_eq_zero_or_one (mm >>> i) with hb0 | hb0
          · rw [hb0]
            rw [hb0, Nat.add_zero] at cs
            refine br_ok X (dk rfl) rfl (show ((62 : Nat) : Int) + 6 = ((68 : Nat) : Int) from rfl) (fun c2 => absurd rfl c2) (fun _ => ?_)
            refine br_ok X (dk rfl) rfl (show ((65 : Nat) : Int) + 35 = ((100 : Nat) : Int) from rfl) (fun _ => ?_) (fun q => absurd trivial q)
            repeat refine fst1_ok X (dk rfl) rfl ?_
            refine br_ok X (dk rfl) rfl (show ((103 : Nat) : Int) + (-54) = ((49 : Nat) : Int) from rfl) (fun _ => ?_) (fun q => absurd trivial q)
            refine WS.sel (l' := [(7, vI (i + 1)), (6, .int z), (5, vI (cntN mm (i + 1))), (4, .ref F), (3, vI mm), (2, .int x2), (1, vI j1), (0, .ref o)]) [7, 6, 5, 4, 3, 2, 1, 0] (by rw [← f2, cs]; rfl) ?_
            exact ih (i + 1) (by omega) (by omega) _ rs rows _ _ rfl XX (by rw [cs]; exact h1l) h2l hFh hrs hro
          · rw [hb0]
            rw [hb0] at cs
            refine br_ok X (dk rfl) rfl (show ((62 : Nat) : Int) + 6 = ((68 : Nat) : Int) from rfl) (fun _ => ?_) (fun c2 => absurd (by decide) c2)
            repeat refine fst1_ok X (dk rfl) rfl ?_
            refine getf_ok X flX10_16 (dk rfl) M3.obj rfl ?_
            refine fst1_ok X (dk rfl) rfl ?_
            refine lda_ok X (dk rfl) (XX _ _ (E1 _ _ a2)) e1 (by omega) ?_
            refine fst1_ok X (dk rfl) rfl ?_
            refine ldr_ok X (dk rfl) (XX _ _ (E1 _ _ as3)) i5 (by rw [as2, w1.1]; decide) ?_
            have hc5 := XX _ _ (E1 _ _ i7)
            refine str_ok X (dk rfl) hFh hc5 (by rw [filR_len (by omega)]; omega) (by rw [filR_len (by omega)]; omega) ?_
            rw [show (filR rs (cntN mm 8)).set (cntN mm i) (.ref c5) = filR (rs ++ [c5]) (cntN mm 8) by rw [← h1l]; exact filR_set (by omega)]
            have XX2 : Ext h3 (hup hh F (105, filR (rs ++ [c5]) (cntN mm 8))) := XX.set hF _
            have M4 := M2.ext XX2
            have kF : ∀ (u : Nat) (w : List Nat), hh u = some (IA w) → hup hh F (105, filR (rs ++ [c5]) (cntN mm 8)) u = some (IA w) := fun u w hu => by rw [hup_ne _ _ (IA_ne hu hFh)]; exact hu
            repeat refine fst1_ok X (dk rfl) rfl ?_
            refine getf_ok X flX10_16 (dk rfl) M4.obj rfl ?_
            refine fst1_ok X (dk rfl) rfl ?_
            refine lda_ok X (dk rfl) (XX2 _ _ (E1 _ _ a2)) e1 (by omega) ?_
            refine fst1_ok X (dk rfl) rfl ?_
            refine ldr_ok X (dk rfl) (XX2 _ _ (E1 _ _ as3)) i5 (by rw [as2, w1.1]; decide) ?_
            refine alen_ok X (by decide) (dk rfl) (kF _ _ hc5) ?_
            generalize nI (z5.map vI).length = w5
            repeat refine fst1_ok X (dk rfl) rfl ?_
            refine br_ok X (dk rfl) rfl (show ((103 : Nat) : Int) + (-54) = ((49 : Nat) : Int) from rfl) (fun _ => ?_) (fun q => absurd trivial q)
            have f3 : Value.int (nI (cntN mm i) + Int32.ofInt 1) = vI (cntN mm (i + 1)) := congrArg Value.int (by rw [nI_1', nI_add, cs])
            refine WS.sel (l' := [(7, vI (i + 1)), (6, .int (z + w5)), (5, vI (cntN mm (i + 1))), (4, .ref F), (3, vI mm), (2, .int x2), (1, vI j1), (0, .ref o)]) [7, 6, 5, 4, 3, 2, 1, 0] (by rw [← f2, ← f3]; rfl) ?_
            refine ih (i + 1) (by omega) (by omega) _ (rs ++ [c5]) (rows ++ [z5]) _ _ rfl XX2 (by rw [List.length_append, cs, h1l]; rfl) (by simp [h2l]) (hup_self _ _ _) (fun k u w k1 k2 => ?_) (fun w hw => ?_)
            · rcases Nat.lt_or_ge k rs.length with q | q
              · rw [List.getElem?_append_left q] at k1
                rw [List.getElem?_append_left (by omega)] at k2
                exact kF _ _ (hrs k u w k1 k2)
              · have hk : k = rs.length := by have := (List.getElem?_eq_some_iff.mp k1).1; rw [List.length_append, List.length_singleton] at this; omega
                rw [hk, List.getElem?_concat_length] at k1
                rw [hk, ← h2l, List.getElem?_concat_length] at k2
                cases k1
                cases k2
                exact kF _ _ hc5
            · rcases List.mem_append.mp hw with q | q
              · exact hro w q
              · simp at q; rw [q]; exact t5
      iterate 7 refine fst1_ok X (dk rfl) rfl ?_
      exact loop 8 0 rfl (Nat.zero_le _) _ [] [] _ _ rfl (Ext.new hF _) rfl rfl (hup_self _ _ _) (fun k u w k1 => by simp at k1) (fun w hw => by simp at hw)
  iterate 2 refine fst1_ok X (dk rfl) rfl ?_
  refine isAnswer_ok X E mlX10_135 ⟨Nat.le_of_ble_eq_true rfl, Nat.le_of_ble_eq_true rfl⟩ ⟨Nat.le_of_ble_eq_true rfl, Nat.le_of_ble_eq_true rfl⟩ (Nat.le_of_ble_eq_true rfl) (dk rfl) (fun mid1b0 mid1h0 mid1n0 => ?_)
  cases mid1b0 with
  | false =>
    refine br_ok X (dk rfl) rfl (show ((5 : Nat) : Int) + 7 = ((12 : Nat) : Int) from rfl) (fun q => absurd q bI_f) (fun _ => ?_)
    refine fst1_ok X (dk rfl) rfl ?_
    refine br_ok X (dk rfl) rfl (show ((9 : Nat) : Int) + 4 = ((13 : Nat) : Int) from rfl) (fun _ => ?_) (fun q => absurd trivial q)
    exact mid1 true (fun z => by cases z)
  | true =>
    refine br_ok X (dk rfl) rfl (show ((5 : Nat) : Int) + 7 = ((12 : Nat) : Int) from rfl) (fun _ => ?_) (fun q => absurd bI_t q)
    refine fst1_ok X (dk rfl) rfl ?_
    exact mid1 false (fun _ => mid1h0 rfl)
set_option maxHeartbeats 4000000 in
theorem RF.c_steps (h : AH) (M : MD h o S A sl an da dr kn th) (x1 x2 : Int32) {F C N : Nat} (HB : GoB F C N) : CT la D cA B0 pa yX10_steps cX10_steps 3 (some .int) (rmD (2 * F + 5) (2 + C) (11 + N)) [.ref o, .int x1, .int x2] h (intR o S A sl an da dr kn h) := by
  refine CT_of (by decide +kernel) (Nat.le_of_ble_eq_true rfl) ?_
  intro p e s m args below meth c X E hr hlk hnm
  have dk : ∀ {pc : Nat} {q : Instr × Nat}, lkd DX10_steps pc = some q → decode cX10_steps pc = .ok q := lkd_ok DX10_steps_ok
  have mid1 : ∀ t1 : Bool, (t1 = false → inN 6 x1 ∧ inN 6 x2) → WR p la e (rmD (2 * F + 5) (2 + C) (11 + N)) s m args below meth c D cA B0 3 (intR o S A sl an da dr kn h) 20 (lv_args 0 [.ref o, .int x1, .int x2]) [.int (bI t1), .ref o] h 0 0 := by
    intro t1 ht1
    refine thr1_ok X E M ⟨by show 2 ≤ 2 * F + 5; omega, by show 61 ≤ 40 * (2 * F + 5); omega⟩ ⟨Nat.zero_le _, Nat.zero_le _⟩ (Nat.le_of_ble_eq_true rfl) (dk rfl) (fun h1 M1 F1 => ?_)
    cases hb : t1 with
    | true =>
      refine br_ok X (dk rfl) rfl (show ((23 : Nat) : Int) + 7 = ((30 : Nat) : Int) from rfl) (fun q => absurd q bI_t) (fun _ => ?_)
      refine fst1_ok X (dk rfl) rfl ?_
      refine br_ok X (dk rfl) rfl (show ((27 : Nat) : Int) + 25 = ((52 : Nat) : Int) from rfl) (fun _ => ?_) (fun q => absurd trivial q)
      exact reti_ok X hr hlk rfl (dk rfl) ⟨⟨_, rfl⟩, ⟨_, M1⟩, F1⟩ (Nat.zero_le _) (Nat.zero_le _)
    | false =>
      refine br_ok X (dk rfl) rfl (show ((23 : Nat) : Int) + 7 = ((30 : Nat) : Int) from rfl) (fun _ => ?_) (fun q => absurd bI_f' q)
      obtain ⟨⟨j1, hj1, rfl⟩, ⟨j2, hj2, rfl⟩⟩ := ht1 hb
      obtain ⟨ss, s1, s2, s3⟩ := M1.slot
      obtain ⟨as, a1, a2, a3⟩ := M1.ans
      obtain ⟨b1, y1, e1, f1, g1, w1, n1⟩ := s3 j1 hj1
      have ly1 : (y1.map vI).length = y1.length := List.length_map _
      obtain ⟨b2, y2, e2, f2, g2, w2, n2⟩ := s3 j2 hj2
      have ly2 : (y2.map vI).length = y2.length := List.length_map _
      obtain ⟨G, hG, hGc, hGn⟩ := HB y1 y2 ⟨w1, n1⟩ ⟨w2, n2⟩
      refine new_ok X nc10_157 (dk rfl) (by show 0 + 1 ≤ 2 + C; omega) (by show 0 + 3 ≤ 11 + N; omega) (fun u hu hBu => ?_)
      have XU := Ext.new hu ((11, [Value.null, .int 0, .int 0]) : AC)
      repeat refine fst1_ok X (dk rfl) rfl ?_
      refine getf_ok X flX10_11 (dk rfl) (XU _ _ M1.obj) rfl ?_
      refine fst1_ok X (dk rfl) rfl ?_
      refine ldr_ok X (dk rfl) (XU _ _ s2) e1 (by omega) ?_
      repeat refine fst1_ok X (dk rfl) rfl ?_
      refine getf_ok X flX10_11 (dk rfl) (XU _ _ M1.obj) rfl ?_
      refine fst1_ok X (dk rfl) rfl ?_
      refine ldr_ok X (dk rfl) (XU _ _ s2) e2 (by omega) ?_
      refine callI_ok (av := [.ref b1, .ref b2]) (r := [.ref u]) X E (c_stepsInit _ (hup_self _ _ _) (XU _ _ g1) (XU _ _ g2) ⟨w1, n1⟩ ⟨w2, n2⟩ hG) lkX9_init mlX10_159 lmX9_init rfl ⟨by show 2 * F + 4 + 1 ≤ 2 * F + 5; omega, by show 8 + (3 + 11) + 40 * (2 * F + 4) ≤ 40 * (2 * F + 5); omega⟩ ⟨by show 0 + 1 + (1 + G.2.2.2.1) ≤ 2 + C; omega, by show 0 + 3 + (8 + G.2.2.2.2) ≤ 11 + N; omega⟩ (Nat.le_of_ble_eq_true rfl) (dk rfl) ?_
      rintro v h2 ⟨rfl, ⟨St, hSt, M2⟩, F2⟩
      have X2 : Ext h1 h2 := fun b c e => F2 b c (fun z => by rw [z, hu] at e; cases e) (XU _ _ e)
      refine getfN_ok X E.2.1 fnX10_211 (dk rfl) M2.1 rfl ?_
      exact reti_ok X hr hlk rfl (dk rfl) ⟨⟨_, rfl⟩, ⟨_, M1.ext X2⟩, F1.trans (Fr.ext X2)⟩ (by show 0 + 1 + (1 + G.2.2.2.1) ≤ 2 + C; omega) (by show 0 + 3 + (8 + G.2.2.2.2) ≤ 11 + N; omega)
  iterate 2 refine fst1_ok X (dk rfl) rfl ?_
  refine isSlot_ok X E mlX10_95 ⟨by show 1 ≤ 2 * F + 5; omega, by show 20 ≤ 40 * (2 * F + 5); omega⟩ ⟨Nat.zero_le _, Nat.zero_le _⟩ (Nat.le_of_ble_eq_true rfl) (dk rfl) (fun mid1b0 mid1h0 mid1n0 => ?_)
  cases mid1b0 with
  | false =>
    refine br_ok X (dk rfl) rfl (show ((5 : Nat) : Int) + 10 = ((15 : Nat) : Int) from rfl) (fun _ => ?_) (fun q => absurd bI_f' q)
    refine fst1_ok X (dk rfl) rfl ?_
    refine br_ok X (dk rfl) rfl (show ((16 : Nat) : Int) + 4 = ((20 : Nat) : Int) from rfl) (fun _ => ?_) (fun q => absurd trivial q)
    exact mid1 true (fun z => by cases z)
  | true =>
    refine br_ok X (dk rfl) rfl (show ((5 : Nat) : Int) + 10 = ((15 : Nat) : Int) from rfl) (fun q => absurd q bI_t) (fun _ => ?_)
    iterate 1 refine fst1_ok X (dk rfl) rfl ?_
    refine isSlot_ok X E mlX10_95 ⟨by show 1 ≤ 2 * F + 5; omega, by show 20 ≤ 40 * (2 * F + 5); omega⟩ ⟨Nat.zero_le _, Nat.zero_le _⟩ (Nat.le_of_ble_eq_true rfl) (dk rfl) (fun mid1b1 mid1h1 mid1n1 => ?_)
    cases mid1b1 with
    | false =>
      refine br_ok X (dk rfl) rfl (show ((12 : Nat) : Int) + 7 = ((19 : Nat) : Int) from rfl) (fun q => absurd q bI_f) (fun _ => ?_)
      refine fst1_ok X (dk rfl) rfl ?_
      refine br_ok X (dk rfl) rfl (show ((16 : Nat) : Int) + 4 = ((20 : Nat) : Int) from rfl) (fun _ => ?_) (fun q => absurd trivial q)
      exact mid1 true (fun z => by cases z)
    | true =>
      refine br_ok X (dk rfl) rfl (show ((12 : Nat) : Int) + 7 = ((19 : Nat) : Int) from rfl) (fun _ => ?_) (fun q => absurd bI_t q)
      refine fst1_ok X (dk rfl) rfl ?_
      exact mid1 false (fun _ => ⟨mid1h0 rfl, mid1h1 rfl⟩)
set_option maxHeartbeats 4000000 in
theorem RF.c_why (h : AH) (M : MD h o S A sl an da dr kn th) (x1 x2 : Int32) {F C N : Nat} (HB : GoB F C N) : CT la D cA B0 pa yX10_why cX10_why 3 (some .int) (rmD (2 * F + 5) (2 + C) (11 + N)) [.ref o, .int x1, .int x2] h (intR o S A sl an da dr kn h) := by
  refine CT_of (by decide +kernel) (Nat.le_of_ble_eq_true rfl) ?_
  intro p e s m args below meth c X E hr hlk hnm
  have dk : ∀ {pc : Nat} {q : Instr × Nat}, lkd DX10_why pc = some q → decode cX10_why pc = .ok q := lkd_ok DX10_why_ok
  have mid1 : ∀ t1 : Bool, (t1 = false → inN 6 x1 ∧ inN 6 x2) → WR p la e (rmD (2 * F + 5) (2 + C) (11 + N)) s m args below meth c D cA B0 3 (intR o S A sl an da dr kn h) 20 (lv_args 0 [.ref o, .int x1, .int x2]) [.int (bI t1), .ref o] h 0 0 := by
    intro t1 ht1
    refine thr1_ok X E M ⟨by show 2 ≤ 2 * F + 5; omega, by show 61 ≤ 40 * (2 * F + 5); omega⟩ ⟨Nat.zero_le _, Nat.zero_le _⟩ (Nat.le_of_ble_eq_true rfl) (dk rfl) (fun h1 M1 F1 => ?_)
    cases hb : t1 with
    | true =>
      refine br_ok X (dk rfl) rfl (show ((23 : Nat) : Int) + 7 = ((30 : Nat) : Int) from rfl) (fun q => absurd q bI_t) (fun _ => ?_)
      refine fst1_ok X (dk rfl) rfl ?_
      refine br_ok X (dk rfl) rfl (show ((27 : Nat) : Int) + 25 = ((52 : Nat) : Int) from rfl) (fun _ => ?_) (fun q => absurd trivial q)
      exact reti_ok X hr hlk rfl (dk rfl) ⟨⟨_, rfl⟩, ⟨_, M1⟩, F1⟩ (Nat.zero_le _) (Nat.zero_le _)
    | false =>
      refine br_ok X (dk rfl) rfl (show ((23 : Nat) : Int) + 7 = ((30 : Nat) : Int) from rfl) (fun _ => ?_) (fun q => absurd bI_f' q)
      obtain ⟨⟨j1, hj1, rfl⟩, ⟨j2, hj2, rfl⟩⟩ := ht1 hb
      obtain ⟨ss, s1, s2, s3⟩ := M1.slot
      obtain ⟨as, a1, a2, a3⟩ := M1.ans
      obtain ⟨b1, y1, e1, f1, g1, w1, n1⟩ := s3 j1 hj1
      have ly1 : (y1.map vI).length = y1.length := List.length_map _
      obtain ⟨b2, y2, e2, f2, g2, w2, n2⟩ := s3 j2 hj2
      have ly2 : (y2.map vI).length = y2.length := List.length_map _
      obtain ⟨G, hG, hGc, hGn⟩ := HB y1 y2 ⟨w1, n1⟩ ⟨w2, n2⟩
      refine new_ok X nc10_157 (dk rfl) (by show 0 + 1 ≤ 2 + C; omega) (by show 0 + 3 ≤ 11 + N; omega) (fun u hu hBu => ?_)
      have XU := Ext.new hu ((11, [Value.null, .int 0, .int 0]) : AC)
      repeat refine fst1_ok X (dk rfl) rfl ?_
      refine getf_ok X flX10_11 (dk rfl) (XU _ _ M1.obj) rfl ?_
      refine fst1_ok X (dk rfl) rfl ?_
      refine ldr_ok X (dk rfl) (XU _ _ s2) e1 (by omega) ?_
      repeat refine fst1_ok X (dk rfl) rfl ?_
      refine getf_ok X flX10_11 (dk rfl) (XU _ _ M1.obj) rfl ?_
      refine fst1_ok X (dk rfl) rfl ?_
      refine ldr_ok X (dk rfl) (XU _ _ s2) e2 (by omega) ?_
      refine callI_ok (av := [.ref b1, .ref b2]) (r := [.ref u]) X E (c_stepsInit _ (hup_self _ _ _) (XU _ _ g1) (XU _ _ g2) ⟨w1, n1⟩ ⟨w2, n2⟩ hG) lkX9_init mlX10_159 lmX9_init rfl ⟨by show 2 * F + 4 + 1 ≤ 2 * F + 5; omega, by show 8 + (3 + 11) + 40 * (2 * F + 4) ≤ 40 * (2 * F + 5); omega⟩ ⟨by show 0 + 1 + (1 + G.2.2.2.1) ≤ 2 + C; omega, by show 0 + 3 + (8 + G.2.2.2.2) ≤ 11 + N; omega⟩ (Nat.le_of_ble_eq_true rfl) (dk rfl) ?_
      rintro v h2 ⟨rfl, ⟨St, hSt, M2⟩, F2⟩
      have X2 : Ext h1 h2 := fun b c e => F2 b c (fun z => by rw [z, hu] at e; cases e) (XU _ _ e)
      refine getfN_ok X E.2.1 fnX10_204 (dk rfl) M2.1 rfl ?_
      exact reti_ok X hr hlk rfl (dk rfl) ⟨⟨_, rfl⟩, ⟨_, M1.ext X2⟩, F1.trans (Fr.ext X2)⟩ (by show 0 + 1 + (1 + G.2.2.2.1) ≤ 2 + C; omega) (by show 0 + 3 + (8 + G.2.2.2.2) ≤ 11 + N; omega)
  iterate 2 refine fst1_ok X (dk rfl) rfl ?_
  refine isSlot_ok X E mlX10_95 ⟨by show 1 ≤ 2 * F + 5; omega, by show 20 ≤ 40 * (2 * F + 5); omega⟩ ⟨Nat.zero_le _, Nat.zero_le _⟩ (Nat.le_of_ble_eq_true rfl) (dk rfl) (fun mid1b0 mid1h0 mid1n0 => ?_)
  cases mid1b0 with
  | false =>
    refine br_ok X (dk rfl) rfl (show ((5 : Nat) : Int) + 10 = ((15 : Nat) : Int) from rfl) (fun _ => ?_) (fun q => absurd bI_f' q)
    refine fst1_ok X (dk rfl) rfl ?_
    refine br_ok X (dk rfl) rfl (show ((16 : Nat) : Int) + 4 = ((20 : Nat) : Int) from rfl) (fun _ => ?_) (fun q => absurd trivial q)
    exact mid1 true (fun z => by cases z)
  | true =>
    refine br_ok X (dk rfl) rfl (show ((5 : Nat) : Int) + 10 = ((15 : Nat) : Int) from rfl) (fun q => absurd q bI_t) (fun _ => ?_)
    iterate 1 refine fst1_ok X (dk rfl) rfl ?_
    refine isSlot_ok X E mlX10_95 ⟨by show 1 ≤ 2 * F + 5; omega, by show 20 ≤ 40 * (2 * F + 5); omega⟩ ⟨Nat.zero_le _, Nat.zero_le _⟩ (Nat.le_of_ble_eq_true rfl) (dk rfl) (fun mid1b1 mid1h1 mid1n1 => ?_)
    cases mid1b1 with
    | false =>
      refine br_ok X (dk rfl) rfl (show ((12 : Nat) : Int) + 7 = ((19 : Nat) : Int) from rfl) (fun q => absurd q bI_f) (fun _ => ?_)
      refine fst1_ok X (dk rfl) rfl ?_
      refine br_ok X (dk rfl) rfl (show ((16 : Nat) : Int) + 4 = ((20 : Nat) : Int) from rfl) (fun _ => ?_) (fun q => absurd trivial q)
      exact mid1 true (fun z => by cases z)
    | true =>
      refine br_ok X (dk rfl) rfl (show ((12 : Nat) : Int) + 7 = ((19 : Nat) : Int) from rfl) (fun _ => ?_) (fun q => absurd bI_t q)
      refine fst1_ok X (dk rfl) rfl ?_
      exact mid1 false (fun _ => ⟨mid1h0 rfl, mid1h1 rfl⟩)
set_option maxHeartbeats 4000000 in
theorem RF.c_can (h : AH) (M : MD h o S A sl an da dr kn th) (x1 x2 x3 : Int32) : CT la D cA B0 pa yX10_can cX10_can 4 (some .boolean) (rmD 86 8422 97121) [.ref o, .int x1, .int x2, .int x3] h (booR o S A sl an da dr kn h) := by
  refine CT_of (by decide +kernel) (Nat.le_of_ble_eq_true rfl) ?_
  intro p e s m args below meth c X E hr hlk hnm
  have dk : ∀ {pc : Nat} {q : Instr × Nat}, lkd DX10_can pc = some q → decode cX10_can pc = .ok q := lkd_ok DX10_can_ok
  have mid2 : ∀ t1 t2 : Bool, (t1 = false → inN 6 x1 ∧ inN 6 x2) → (t2 = false → inN 2 x3) → WR p la e (rmD 86 8422 97121) s m args below meth c D cA B0 4 (booR o S A sl an da dr kn h) 34 (lv_args 0 [.ref o, .int x1, .int x2, .int x3]) [.int (bI t2), .int (bI t1), .ref o] h 0 0 := by
    intro t1 t2 ht1 ht2
    refine thr2_ok X E M ⟨Nat.le_of_ble_eq_true rfl, Nat.le_of_ble_eq_true rfl⟩ ⟨Nat.le_of_ble_eq_true rfl, Nat.le_of_ble_eq_true rfl⟩ (Nat.le_of_ble_eq_true rfl) (dk rfl) (fun h1 M1 F1 => ?_)
    cases hb : (t1 || t2) with
    | true =>
      refine br_ok X (dk rfl) rfl (show ((37 : Nat) : Int) + 26 = ((63 : Nat) : Int) from rfl) (fun _ => ?_) (fun q => absurd bI_t q)
      refine fst1_ok X (dk rfl) rfl ?_
      exact reti_ok X hr hlk (bI_n false) (dk rfl) ⟨⟨false, rfl⟩, ⟨_, M1⟩, F1⟩ (Nat.zero_le _) (Nat.zero_le _)
    | false =>
      obtain ⟨hb1, hb2⟩ := Bool.or_eq_false_iff.mp hb
      obtain ⟨⟨j1, hj1, rfl⟩, ⟨j2, hj2, rfl⟩⟩ := ht1 hb1
      obtain ⟨j3, hj3, rfl⟩ := ht2 hb2
      obtain ⟨ss, s1, s2, s3⟩ := M1.slot
      obtain ⟨as, a1, a2, a3⟩ := M1.ans
      obtain ⟨b1, y1, e1, f1, g1, w1, n1⟩ := s3 j1 hj1
      have ly1 : (y1.map vI).length = y1.length := List.length_map _
      obtain ⟨b2, y2, e2, f2, g2, w2, n2⟩ := s3 j2 hj2
      have ly2 : (y2.map vI).length = y2.length := List.length_map _
      refine br_ok X (dk rfl) rfl (show ((37 : Nat) : Int) + 26 = ((63 : Nat) : Int) from rfl) (fun q => absurd q bI_f) (fun _ => ?_)
      repeat refine fst1_ok X (dk rfl) rfl ?_
      refine getf_ok X flX10_11 (dk rfl) M1.obj rfl ?_
      refine fst1_ok X (dk rfl) rfl ?_
      refine ldr_ok X (dk rfl) s2 e1 (by omega) ?_
      repeat refine fst1_ok X (dk rfl) rfl ?_
      refine getf_ok X flX10_11 (dk rfl) M1.obj rfl ?_
      refine fst1_ok X (dk rfl) rfl ?_
      refine ldr_ok X (dk rfl) s2 e2 (by omega) ?_
      repeat refine fst1_ok X (dk rfl) rfl ?_
      refine callS_ok (av := [.ref b1, .ref b2, .int (nI j3)]) (r := []) X E (c_canBe h1 (nI j3) (C := 8422) (N := 97121) ⟨Nat.le_of_ble_eq_true rfl, Nat.le_of_ble_eq_true rfl⟩ (fun _ G hG => go_cap ⟨w1, n1⟩ ⟨w2, n2⟩ hG) g1 g2 ⟨w1, n1⟩ ⟨w2, n2⟩) lkX10_canBe mlX10_153 lsX10_canBe ⟨Nat.le_of_ble_eq_true rfl, Nat.le_of_ble_eq_true rfl⟩ ⟨Nat.le_of_ble_eq_true rfl, Nat.le_of_ble_eq_true rfl⟩ (Nat.le_of_ble_eq_true rfl) (dk rfl) ?_
      rintro v h2 ⟨bb, rfl, XQ, -⟩
      cases bb with
      | false =>
        refine br_ok X (dk rfl) rfl (show ((56 : Nat) : Int) + 7 = ((63 : Nat) : Int) from rfl) (fun _ => ?_) (fun q => absurd bI_f' q)
        refine fst1_ok X (dk rfl) rfl ?_
        exact reti_ok X hr hlk (bI_n false) (dk rfl) ⟨⟨false, rfl⟩, ⟨_, M1.ext XQ⟩, F1.trans (Fr.ext XQ)⟩ (Nat.le_of_ble_eq_true rfl) (Nat.le_of_ble_eq_true rfl)
      | true =>
        refine br_ok X (dk rfl) rfl (show ((56 : Nat) : Int) + 7 = ((63 : Nat) : Int) from rfl) (fun q => absurd q bI_t) (fun _ => ?_)
        refine fst1_ok X (dk rfl) rfl ?_
        refine br_ok X (dk rfl) rfl (show ((60 : Nat) : Int) + 4 = ((64 : Nat) : Int) from rfl) (fun _ => ?_) (fun q => absurd trivial q)
        exact reti_ok X hr hlk (bI_n true) (dk rfl) ⟨⟨true, rfl⟩, ⟨_, M1.ext XQ⟩, F1.trans (Fr.ext XQ)⟩ (Nat.le_of_ble_eq_true rfl) (Nat.le_of_ble_eq_true rfl)
  have mid1 : ∀ t1 : Bool, (t1 = false → inN 6 x1 ∧ inN 6 x2) → WR p la e (rmD 86 8422 97121) s m args below meth c D cA B0 4 (booR o S A sl an da dr kn h) 20 (lv_args 0 [.ref o, .int x1, .int x2, .int x3]) [.int (bI t1), .ref o] h 0 0 := by
    intro t1 ht1
    have mid2 := fun t2 => mid2 t1 t2 ht1
    iterate 1 refine fst1_ok X (dk rfl) rfl ?_
    have mid2T : ∀ l : List (Nat × Value), l = (lv_args 0 [.ref o, .int x1, .int x2, .int x3]) → WR p la e (rmD 86 8422 97121) s m args below meth c D cA B0 4 (booR o S A sl an da dr kn h) 29 l [.int (bI t1), .ref o] h 0 0 := by
      intro l hl
      rw [hl]
      refine fst1_ok X (dk rfl) rfl ?_
      refine br_ok X (dk rfl) rfl (show ((30 : Nat) : Int) + 4 = ((34 : Nat) : Int) from rfl) (fun _ => ?_) (fun q => absurd trivial q)
      exact mid2 true (fun z => by cases z)
    refine br_ok X (dk rfl) rfl (show ((21 : Nat) : Int) + 8 = ((29 : Nat) : Int) from rfl) (fun _ => mid2T _ rfl) (fun c1 => ?_)
    iterate 2 refine fst1_ok X (dk rfl) rfl ?_
    refine br_ok X (dk rfl) rfl (show ((26 : Nat) : Int) + 7 = ((33 : Nat) : Int) from rfl) (fun c2 => ?_) (fun _ => mid2T _ rfl)
    refine fst1_ok X (dk rfl) rfl ?_
    exact mid2 false (fun _ => inN_le (K := 1) (by omega) c1 (by rw [show nI 1 = Int32.ofInt 1 by decide +kernel]; exact c2))
  iterate 2 refine fst1_ok X (dk rfl) rfl ?_
  refine isSlot_ok X E mlX10_95 ⟨Nat.le_of_ble_eq_true rfl, Nat.le_of_ble_eq_true rfl⟩ ⟨Nat.le_of_ble_eq_true rfl, Nat.le_of_ble_eq_true rfl⟩ (Nat.le_of_ble_eq_true rfl) (dk rfl) (fun mid1b0 mid1h0 mid1n0 => ?_)
  cases mid1b0 with
  | false =>
    refine br_ok X (dk rfl) rfl (show ((5 : Nat) : Int) + 10 = ((15 : Nat) : Int) from rfl) (fun _ => ?_) (fun q => absurd bI_f' q)
    refine fst1_ok X (dk rfl) rfl ?_
    refine br_ok X (dk rfl) rfl (show ((16 : Nat) : Int) + 4 = ((20 : Nat) : Int) from rfl) (fun _ => ?_) (fun q => absurd trivial q)
    exact mid1 true (fun z => by cases z)
  | true =>
    refine br_ok X (dk rfl) rfl (show ((5 : Nat) : Int) + 10 = ((15 : Nat) : Int) from rfl) (fun q => absurd q bI_t) (fun _ => ?_)
    iterate 1 refine fst1_ok X (dk rfl) rfl ?_
    refine isSlot_ok X E mlX10_95 ⟨Nat.le_of_ble_eq_true rfl, Nat.le_of_ble_eq_true rfl⟩ ⟨Nat.le_of_ble_eq_true rfl, Nat.le_of_ble_eq_true rfl⟩ (Nat.le_of_ble_eq_true rfl) (dk rfl) (fun mid1b1 mid1h1 mid1n1 => ?_)
    cases mid1b1 with
    | false =>
      refine br_ok X (dk rfl) rfl (show ((12 : Nat) : Int) + 7 = ((19 : Nat) : Int) from rfl) (fun q => absurd q bI_f) (fun _ => ?_)
      refine fst1_ok X (dk rfl) rfl ?_
      refine br_ok X (dk rfl) rfl (show ((16 : Nat) : Int) + 4 = ((20 : Nat) : Int) from rfl) (fun _ => ?_) (fun q => absurd trivial q)
      exact mid1 true (fun z => by cases z)
    | true =>
      refine br_ok X (dk rfl) rfl (show ((12 : Nat) : Int) + 7 = ((19 : Nat) : Int) from rfl) (fun _ => ?_) (fun q => absurd bI_t q)
      refine fst1_ok X (dk rfl) rfl ?_
      exact mid1 false (fun _ => ⟨mid1h0 rfl, mid1h1 rfl⟩)
set_option maxHeartbeats 16000000 in
theorem RF.c_digest (h : AH) (M : MD h o S A sl an da dr kn th) : CT la D cA B0 pa yX10_digest cX10_digest 9 (some .long) (rmD 86 8500 97199) [.ref o] h (lonR o S A sl an da dr kn h) := by
  refine CT_of (by decide +kernel) (Nat.le_of_ble_eq_true rfl) ?_
  intro p e s m args below meth c X E hr hlk hnm
  have dk : ∀ {pc : Nat} {q : Instr × Nat}, lkd DX10_digest pc = some q → decode cX10_digest pc = .ok q := lkd_ok DX10_digest_ok
  have addS : ∀ (pc : Nat) (l : List (Nat × Value)) (r : List Value) (hh : AH) (k n : Nat) (d v : Int64), decode cX10_digest pc = .ok (.invokestatic 226, 3) → (r.map fun v => v.category).sum ≤ 8 → k ≤ 8500 → n ≤ 97199 → (∀ z : Int64, WR p la e (rmD 86 8500 97199) s m args below meth c D cA B0 9 (lonR o S A sl an da dr kn h) (pc + 3) l (.long z :: r) hh k n) → WR p la e (rmD 86 8500 97199) s m args below meth c D cA B0 9 (lonR o S A sl an da dr kn h) pc l (.long v :: .long d :: r) hh k n := by
    intro pc l r hh k n d v hd hw hk hn kk
    refine callS_ok (av := [.long d, .long v]) (r := r) X E (c_add hh d v) lkX10_add mlX10_226 lsX10_add ⟨Nat.le_of_ble_eq_true rfl, Nat.le_of_ble_eq_true rfl⟩ ⟨hk, hn⟩ hw hd ?_
    rintro v2 h2 ⟨rfl, rfl⟩
    exact kk _
  have tail : ∀ (hh : AH) (th1 : Int32) (l : List (Nat × Value)) (z : Int64), lsel l [1, 0] = [(1, .long z), (0, .ref o)] → MD hh o S A sl an da dr kn th1 → Fr o S A h hh → WR p la e (rmD 86 8500 97199) s m args below meth c D cA B0 9 (lonR o S A sl an da dr kn h) 183 l [] hh 30 30 := by
    intro hh th1 l z hl M1 F1
    obtain ⟨ss, s1, s2, s3⟩ := M1.slot
    obtain ⟨b1, y1, e1, f1, g1, w1, n1⟩ := s3 0 (by omega)
    obtain ⟨b2, y2, e2, f2, g2, w2, n2⟩ := s3 1 (by omega)
    obtain ⟨G, hG, -, gc, gn, -⟩ := goE ⟨w1, n1⟩ ⟨w2, n2⟩
    refine WS.sel [1, 0] hl ?_
    refine new_ok X nc10_157 (dk rfl) (Nat.le_of_ble_eq_true rfl) (Nat.le_of_ble_eq_true rfl) (fun u hu hBu => ?_)
    have XU := Ext.new hu ((11, [Value.null, .int 0, .int 0]) : AC)
    repeat refine fst1_ok X (dk rfl) rfl ?_
    refine getf_ok X flX10_11 (dk rfl) (XU _ _ M1.obj) rfl ?_
    refine fst1_ok X (dk rfl) rfl ?_
    refine ldr_ok X (j := 0) (dk rfl) (XU _ _ s2) e1 (by omega) ?_
    refine fst1_ok X (dk rfl) rfl ?_
    refine getf_ok X flX10_11 (dk rfl) (XU _ _ M1.obj) rfl ?_
    refine fst1_ok X (dk rfl) rfl ?_
    refine ldr_ok X (j := 1) (dk rfl) (XU _ _ s2) e2 (by omega) ?_
    refine callI_ok (av := [.ref b1, .ref b2]) (r := [.ref u]) X E (c_stepsInit _ (hup_self _ _ _) (XU _ _ g1) (XU _ _ g2) ⟨w1, n1⟩ ⟨w2, n2⟩ hG) lkX9_init mlX10_159 lmX9_init rfl ⟨Nat.le_of_ble_eq_true rfl, Nat.le_of_ble_eq_true rfl⟩ ⟨by show 30 + 1 + (1 + G.2.2.2.1) ≤ 8500; omega, by show 30 + 3 + (8 + G.2.2.2.2) ≤ 97199; omega⟩ (Nat.le_of_ble_eq_true rfl) (dk rfl) ?_
    rintro v h2 ⟨rfl, ⟨St, hSt, M2⟩, F2⟩
    have X2 : Ext hh h2 := fun b c e => F2 b c (fun z => by rw [z, hu] at e; cases e) (XU _ _ e)
    refine WS.widen (k' := 8452) (n' := 97151) (by show 30 + 1 + (1 + G.2.2.2.1) ≤ 8452; omega) (by show 30 + 3 + (8 + G.2.2.2.2) ≤ 97151; omega) ?_
    have M3 := M1.ext X2
    repeat refine fst1_ok X (dk rfl) rfl ?_
    refine getfN_ok X E.2.1 fnX10_211 (dk rfl) M2.1 rfl ?_
    refine fst1_ok X (dk rfl) rfl ?_
    refine addS _ _ _ _ _ _ _ _ (dk rfl) (Nat.le_of_ble_eq_true rfl) (by omega) (by omega) (fun z => ?_)
    refine fst1_ok X (dk rfl) rfl ?_
    refine getfN_ok X E.2.1 fnX10_204 (dk rfl) M2.1 rfl ?_
    refine fst1_ok X (dk rfl) rfl ?_
    refine addS _ _ _ _ _ _ _ _ (dk rfl) (Nat.le_of_ble_eq_true rfl) (by omega) (by omega) (fun z => ?_)
    repeat refine fst1_ok X (dk rfl) rfl ?_
    refine getf_ok X flX10_82 (dk rfl) M3.obj rfl ?_
    refine fst1_ok X (dk rfl) rfl ?_
    refine addS _ _ _ _ _ _ _ _ (dk rfl) (Nat.le_of_ble_eq_true rfl) (by omega) (by omega) (fun z => ?_)
    refine fst1_ok X (dk rfl) rfl ?_
    refine getf_ok X flX10_85 (dk rfl) M3.obj rfl ?_
    refine fst1_ok X (dk rfl) rfl ?_
    refine addS _ _ _ _ _ _ _ _ (dk rfl) (Nat.le_of_ble_eq_true rfl) (by omega) (by omega) (fun z => ?_)
    refine fst1_ok X (dk rfl) rfl ?_
    refine getf_ok X flX10_218 (dk rfl) M3.obj rfl ?_
    refine fst1_ok X (dk rfl) rfl ?_
    refine addS _ _ _ _ _ _ _ _ (dk rfl) (Nat.le_of_ble_eq_true rfl) (by omega) (by omega) (fun z => ?_)
    repeat refine fst1_ok X (dk rfl) rfl ?_
    refine callV_ok (ci := 12) (T := TX10) (N := 6) (av := [.int _]) (r := [.long _]) X E (c_told_ h2 M3 _) lkX10_told_ mlX10_221 lmX10_told_ lpX10_told_ ⟨Nat.le_of_ble_eq_true rfl, Nat.le_of_ble_eq_true rfl⟩ ⟨Nat.le_of_ble_eq_true rfl, Nat.le_of_ble_eq_true rfl⟩ rfl M3.obj (Nat.le_of_ble_eq_true rfl) (dk rfl) ?_
    rintro v h3 ⟨⟨w3, rfl⟩, ⟨_, M4⟩, F4⟩
    refine WS.widen (k' := 8476) (n' := 97175) (Nat.le_of_ble_eq_true rfl) (Nat.le_of_ble_eq_true rfl) ?_
    refine fst1_ok X (dk rfl) rfl ?_
    refine addS _ _ _ _ _ _ _ _ (dk rfl) (Nat.le_of_ble_eq_true rfl) (by omega) (by omega) (fun z => ?_)
    iterate 2 refine fst1_ok X (dk rfl) rfl ?_
    refine callV_ok (ci := 12) (T := TX10) (N := 6) (av := [.int _]) (r := [.long _]) X E (c_told_ h3 M4 _) lkX10_told_ mlX10_221 lmX10_told_ lpX10_told_ ⟨Nat.le_of_ble_eq_true rfl, Nat.le_of_ble_eq_true rfl⟩ ⟨Nat.le_of_ble_eq_true rfl, Nat.le_of_ble_eq_true rfl⟩ rfl M4.obj (Nat.le_of_ble_eq_true rfl) (dk rfl) ?_
    rintro v h4 ⟨⟨w4, rfl⟩, ⟨_, M5⟩, F5⟩
    refine WS.widen (k' := 8500) (n' := 97199) (Nat.le_of_ble_eq_true rfl) (Nat.le_of_ble_eq_true rfl) ?_
    refine fst1_ok X (dk rfl) rfl ?_
    refine addS _ _ _ _ _ _ _ _ (dk rfl) (Nat.le_of_ble_eq_true rfl) (by omega) (by omega) (fun z => ?_)
    refine fst1_ok X (dk rfl) rfl ?_
    refine addS _ _ _ _ _ _ _ _ (dk rfl) (Nat.le_of_ble_eq_true rfl) (by omega) (by omega) (fun z => ?_)
    exact retl_ok X hr hlk (dk rfl) ⟨⟨_, rfl⟩, ⟨_, M5⟩, F1.trans ((Fr.ext X2).trans (F4.trans F5))⟩ (Nat.le_of_ble_eq_true rfl) (Nat.le_of_ble_eq_true rfl)
  have loopA : ∀ (d i : Nat), d = 3 - i → i ≤ 3 → ∀ (hh : AH) (th1 : Int32) (l : List (Nat × Value)) (z : Int64), lsel l [5, 4, 3, 1, 0] = [(5, vI i), (4, vI 3), (3, .ref A), (1, .long z), (0, .ref o)] → MD hh o S A sl an da dr kn th1 → Fr o S A h hh → WR p la e (rmD 86 8500 97199) s m args below meth c D cA B0 9 (lonR o S A sl an da dr kn h) 96 l [] hh (6 + 8 * i) (6 + 8 * i) := by
    intro d
    induction d with
    | zero =>
      intro i hd hi hh th1 l z hl M1 F1
      have hi2 : i = 3 := by omega
      subst hi2
      refine WS.sel [5, 4, 3, 1, 0] hl ?_
      repeat refine fst1_ok X (dk rfl) rfl ?_
      refine br_ok X (dk rfl) rfl (show ((100 : Nat) : Int) + 83 = ((183 : Nat) : Int) from rfl) (fun _ => ?_) (fun c1 => absurd (Int32.le_refl _) c1)
      exact tail hh th1 _ z rfl M1 F1
    | succ d ih =>
      intro i hd hi hh th1 l z hl M1 F1
      obtain ⟨as, a1x, a2, a3⟩ := M1.ans
      obtain ⟨b1, y1, e1, f1, g1, w1, n1⟩ := a3 i (by omega)
      obtain ⟨as1, as2, as3, as4⟩ := g1.row
      have f2 : Value.int (nI i + Int32.ofInt 1) = vI (i + 1) := congrArg Value.int (by rw [nI_1', nI_add])
      refine WS.sel [5, 4, 3, 1, 0] hl ?_
      repeat refine fst1_ok X (dk rfl) rfl ?_
      refine br_ok X (dk rfl) rfl (show ((100 : Nat) : Int) + 83 = ((183 : Nat) : Int) from rfl) (fun c1 => absurd c1 (nI_ge (a := i) (b := 3) (by omega) (by omega))) (fun _ => ?_)
      repeat refine fst1_ok X (dk rfl) rfl ?_
      refine lda_ok X (dk rfl) a2 e1 (by omega) ?_
      repeat refine fst1_ok X (dk rfl) rfl ?_
      refine callS_ok (av := [.ref b1]) (r := []) X E (c_movedBy hh g1 w1) lkX10_movedBy mlX10_141 lsX10_movedBy ⟨Nat.le_of_ble_eq_true rfl, Nat.le_of_ble_eq_true rfl⟩ ⟨by show 6 + 8 * i + 8 ≤ 8500; omega, by show 6 + 8 * i + 8 ≤ 97199; omega⟩ (Nat.le_of_ble_eq_true rfl) (dk rfl) ?_
      rintro v h2 ⟨rfl, E1⟩
      have hm := movedN_lt y1 8
      generalize movedN y1 8 = mm at hm
      have M2 := M1.ext E1
      have F2 := F1.trans (Fr.ext E1)
      refine WS.widen (k' := 6 + 8 * (i + 1)) (n' := 6 + 8 * (i + 1)) (by show 6 + 8 * i + 8 ≤ 6 + 8 * (i + 1); omega) (by show 6 + 8 * i + 8 ≤ 6 + 8 * (i + 1); omega) ?_
      repeat refine fst1_ok X (dk rfl) rfl ?_
      refine addS _ _ _ _ _ _ _ _ (dk rfl) (Nat.le_of_ble_eq_true rfl) (by omega) (by omega) (fun z => ?_)
      iterate 3 refine fst1_ok X (dk rfl) rfl ?_
      have loopK : ∀ (d8 j : Nat), d8 = 8 - j → j ≤ 8 → ∀ (l : List (Nat × Value)) (z : Int64), lsel l [8, 7, 6, 5, 4, 3, 1, 0] = [(8, vI j), (7, vI mm), (6, .ref b1), (5, vI i), (4, vI 3), (3, .ref A), (1, .long z), (0, .ref o)] → WR p la e (rmD 86 8500 97199) s m args below meth c D cA B0 9 (lonR o S A sl an da dr kn h) 127 l [] h2 (6 + 8 * (i + 1)) (6 + 8 * (i + 1)) := by
        intro d8
        induction d8 with
        | zero =>
          intro j hd8 hj l z hl
          have hj2 : j = 8 := by omega
          subst hj2
          refine WS.sel [8, 7, 6, 5, 4, 3, 1, 0] hl ?_
          repeat refine fst1_ok X (dk rfl) rfl ?_
          refine br_ok X (dk rfl) rfl (show ((131 : Nat) : Int) + 46 = ((177 : Nat) : Int) from rfl) (fun _ => ?_) (fun c1 => absurd (by decide) c1)
          repeat refine fst1_ok X (dk rfl) rfl ?_
          refine br_ok X (dk rfl) rfl (show ((180 : Nat) : Int) + (-84) = ((96 : Nat) : Int) from rfl) (fun _ => ?_) (fun q => absurd trivial q)
          refine WS.sel (l' := [(5, vI (i + 1)), (4, vI 3), (3, .ref A), (1, .long z), (0, .ref o)]) [5, 4, 3, 1, 0] (by rw [← f2]; rfl) ?_
          exact ih (i + 1) (by omega) (by omega) h2 th1 _ z rfl M2 F2
        | succ d8 ih8 =>
          intro j hd8 hj l z hl
          obtain ⟨c5, z5, i5, i6, i7⟩ := as4 j (by rw [w1.1]; omega)
          have t5 := w1.2 z5 (List.mem_of_getElem? i6)
          have f3 : Value.int (nI j + Int32.ofInt 1) = vI (j + 1) := congrArg Value.int (by rw [nI_1', nI_add])
          refine WS.sel [8, 7, 6, 5, 4, 3, 1, 0] hl ?_
          repeat refine fst1_ok X (dk rfl) rfl ?_
          refine br_ok X (dk rfl) rfl (show ((131 : Nat) : Int) + 46 = ((177 : Nat) : Int) from rfl) (fun c1 => absurd c1 (nI_ge (a := j) (b := 8) (by omega) (by omega))) (fun _ => ?_)
          have nxt : ∀ (l : List (Nat × Value)) (z : Int64), lsel l [8, 7, 6, 5, 4, 3, 1, 0] = [(8, vI j), (7, vI mm), (6, .ref b1), (5, vI i), (4, vI 3), (3, .ref A), (1, .long z), (0, .ref o)] → WR p la e (rmD 86 8500 97199) s m args below meth c D cA B0 9 (lonR o S A sl an da dr kn h) 171 l [] h2 (6 + 8 * (i + 1)) (6 + 8 * (i + 1)) := by
            intro l z hl
            refine WS.sel [8, 7, 6, 5, 4, 3, 1, 0] hl ?_
            refine fst1_ok X (dk rfl) rfl ?_
            refine br_ok X (dk rfl) rfl (show ((174 : Nat) : Int) + (-47) = ((127 : Nat) : Int) from rfl) (fun _ => ?_) (fun q => absurd trivial q)
            refine WS.sel (l' := [(8, vI (j + 1)), (7, vI mm), (6, .ref b1), (5, vI i), (4, vI 3), (3, .ref A), (1, .long z), (0, .ref o)]) [8, 7, 6, 5, 4, 3, 1, 0] (by rw [← f3]; rfl) ?_
            exact ih8 (j + 1) (by omega) (by omega) _ z rfl
          repeat refine fst1_ok X (dk rfl) rfl ?_
          rw [bit8 (by omega) (by omega)]
          refine br_ok X (dk rfl) rfl (show ((142 : Nat) : Int) + 29 = ((171 : Nat) : Int) from rfl) (fun _ => nxt _ z rfl) (fun _ => ?_)
          repeat refine fst1_ok X (dk rfl) rfl ?_
          refine addS _ _ _ _ _ _ _ _ (dk rfl) (Nat.le_of_ble_eq_true rfl) (by omega) (by omega) (fun z => ?_)
          repeat refine fst1_ok X (dk rfl) rfl ?_
          refine ldr_ok X (dk rfl) (E1 _ _ as3) i5 (by rw [as2, w1.1]; decide) ?_
          refine alen_ok X (by decide) (dk rfl) (E1 _ _ i7) ?_
          generalize nI (z5.map vI).length = w5
          refine fst1_ok X (dk rfl) rfl ?_
          refine addS _ _ _ _ _ _ _ _ (dk rfl) (Nat.le_of_ble_eq_true rfl) (by omega) (by omega) (fun z => ?_)
          repeat refine fst1_ok X (dk rfl) rfl ?_
          refine ldr_ok X (dk rfl) (E1 _ _ as3) i5 (by rw [as2, w1.1]; decide) ?_
          refine callS_ok (av := [.long _, .ref c5]) (r := []) X E (c_added h2 _ (E1 _ _ i7) (by have := t5.2; omega)) lkX10_added mlX10_232 lsX10_added ⟨Nat.le_of_ble_eq_true rfl, Nat.le_of_ble_eq_true rfl⟩ ⟨by show 6 + 8 * (i + 1) + 0 ≤ 8500; omega, by show 6 + 8 * (i + 1) + 0 ≤ 97199; omega⟩ (Nat.le_of_ble_eq_true rfl) (dk rfl) ?_
          rintro v h3 ⟨⟨z9, rfl⟩, rfl⟩
          refine fst1_ok X (dk rfl) rfl ?_
          exact nxt _ z9 rfl
      exact loopK 8 0 rfl (by omega) _ _ rfl
  have loopS : ∀ (d i : Nat), d = 6 - i → i ≤ 6 → ∀ (hh : AH) (th1 : Int32) (l : List (Nat × Value)) (z : Int64), lsel l [5, 4, 3, 1, 0] = [(5, vI i), (4, vI 6), (3, .ref S), (1, .long z), (0, .ref o)] → MD hh o S A sl an da dr kn th1 → Fr o S A h hh → WR p la e (rmD 86 8500 97199) s m args below meth c D cA B0 9 (lonR o S A sl an da dr kn h) 21 l [] hh i i := by
    intro d
    induction d with
    | zero =>
      intro i hd hi hh th1 l z hl M1 F1
      have hi2 : i = 6 := by omega
      subst hi2
      obtain ⟨as, a1x, a2, a3⟩ := M1.ans
      have l3 : (as.map Value.ref).length = 3 := by rw [List.length_map]; exact a1x
      refine WS.sel [5, 4, 3, 1, 0] hl ?_
      repeat refine fst1_ok X (dk rfl) rfl ?_
      refine br_ok X (dk rfl) rfl (show ((25 : Nat) : Int) + 59 = ((84 : Nat) : Int) from rfl) (fun _ => ?_) (fun c1 => absurd (Int32.le_refl _) c1)
      refine fst1_ok X (dk rfl) rfl ?_
      refine getf_ok X flX10_16 (dk rfl) M1.obj rfl ?_
      repeat refine fst1_ok X (dk rfl) rfl ?_
      refine alen_ok X (by decide) (dk rfl) a2 ?_
      rw [l3]
      iterate 3 refine fst1_ok X (dk rfl) rfl ?_
      exact loopA 3 0 rfl (by omega) hh th1 _ z rfl M1 F1
    | succ d ih =>
      intro i hd hi hh th1 l z hl M1 F1
      obtain ⟨ss, s1, s2, s3⟩ := M1.slot
      obtain ⟨b1, y1, e1, f1, g1, w1, n1⟩ := s3 i (by omega)
      have f2 : Value.int (nI i + Int32.ofInt 1) = vI (i + 1) := congrArg Value.int (by rw [nI_1', nI_add])
      refine WS.sel [5, 4, 3, 1, 0] hl ?_
      repeat refine fst1_ok X (dk rfl) rfl ?_
      refine br_ok X (dk rfl) rfl (show ((25 : Nat) : Int) + 59 = ((84 : Nat) : Int) from rfl) (fun c1 => absurd c1 (nI_ge (a := i) (b := 6) (by omega) (by omega))) (fun _ => ?_)
      repeat refine fst1_ok X (dk rfl) rfl ?_
      refine ldr_ok X (dk rfl) s2 e1 (by omega) ?_
      repeat refine fst1_ok X (dk rfl) rfl ?_
      refine alen_ok X (by decide) (dk rfl) g1 ?_
      generalize nI (y1.map vI).length = w5
      refine fst1_ok X (dk rfl) rfl ?_
      refine addS _ _ _ _ _ _ _ _ (dk rfl) (Nat.le_of_ble_eq_true rfl) (by omega) (by omega) (fun z => ?_)
      iterate 2 refine fst1_ok X (dk rfl) rfl ?_
      refine callS_ok (av := [.ref b1, vI 0]) (r := [.long _]) X E (c_depthOf hh g1 (by omega) w1.lt 16 0 y1.length (by rw [List.drop_zero]; exact w1.1) (by omega)) lkX10_depthOf mlX10_63 lsX10_depthOf ⟨Nat.le_of_ble_eq_true rfl, Nat.le_of_ble_eq_true rfl⟩ ⟨by show i + 0 ≤ 8500; omega, by show i + 0 ≤ 97199; omega⟩ (Nat.le_of_ble_eq_true rfl) (dk rfl) ?_
      rintro v h2 ⟨⟨w, rfl, -⟩, rfl⟩
      refine WS.widen (k' := i) (n' := i) (Nat.le_refl _) (Nat.le_refl _) ?_
      refine fst1_ok X (dk rfl) rfl ?_
      refine addS _ _ _ _ _ _ _ _ (dk rfl) (Nat.le_of_ble_eq_true rfl) (by omega) (by omega) (fun z => ?_)
      refine fst1_ok X (dk rfl) rfl ?_
      refine callS_ok (av := [.ref b1]) (r := [.long _]) X E (c_sharedOf_ h2 g1 ⟨w1, n1⟩) lkX10_sharedOf_ mlX10_202 lsX10_sharedOf_ ⟨Nat.le_of_ble_eq_true rfl, Nat.le_of_ble_eq_true rfl⟩ ⟨by show i + 1 ≤ 8500; omega, by show i + 1 ≤ 97199; omega⟩ (Nat.le_of_ble_eq_true rfl) (dk rfl) ?_
      rintro v h3 ⟨⟨w2, rfl⟩, E3⟩
      have M3 := M1.ext E3
      refine WS.widen (k' := i + 1) (n' := i + 1) (Nat.le_refl _) (Nat.le_refl _) ?_
      refine fst1_ok X (dk rfl) rfl ?_
      refine addS _ _ _ _ _ _ _ _ (dk rfl) (Nat.le_of_ble_eq_true rfl) (by omega) (by omega) (fun z => ?_)
      iterate 3 refine fst1_ok X (dk rfl) rfl ?_
      refine callS_ok (av := [.ref b1]) (r := [.long _]) X E (c_namesOf h3 (E3 _ _ g1) (by omega) w1.lt) lkX10_namesOf mlX10_124 lsX10_namesOf ⟨Nat.le_of_ble_eq_true rfl, Nat.le_of_ble_eq_true rfl⟩ ⟨by show i + 1 + 0 ≤ 8500; omega, by show i + 1 + 0 ≤ 97199; omega⟩ (Nat.le_of_ble_eq_true rfl) (dk rfl) ?_
      rintro v h4 ⟨rfl, rfl⟩
      refine WS.widen (k' := i + 1) (n' := i + 1) (Nat.le_refl _) (Nat.le_refl _) ?_
      refine fst1_ok X (dk rfl) rfl ?_
      refine addS _ _ _ _ _ _ _ _ (dk rfl) (Nat.le_of_ble_eq_true rfl) (by omega) (by omega) (fun z => ?_)
      refine fst1_ok X (dk rfl) rfl ?_
      refine callS_ok (av := [.long _, .ref b1]) (r := []) X E (c_added h4 _ (E3 _ _ g1) (by omega)) lkX10_added mlX10_232 lsX10_added ⟨Nat.le_of_ble_eq_true rfl, Nat.le_of_ble_eq_true rfl⟩ ⟨by show i + 1 + 0 ≤ 8500; omega, by show i + 1 + 0 ≤ 97199; omega⟩ (Nat.le_of_ble_eq_true rfl) (dk rfl) ?_
      rintro v h5 ⟨⟨z9, rfl⟩, rfl⟩
      iterate 2 refine fst1_ok X (dk rfl) rfl ?_
      refine br_ok X (dk rfl) rfl (show ((81 : Nat) : Int) + (-60) = ((21 : Nat) : Int) from rfl) (fun _ => ?_) (fun q => absurd trivial q)
      refine WS.sel (l' := [(5, vI (i + 1)), (4, vI 6), (3, .ref S), (1, .long z9), (0, .ref o)]) [5, 4, 3, 1, 0] (by rw [← f2]; rfl) ?_
      exact ih (i + 1) (by omega) (by omega) h5 th1 _ z9 rfl M3 (F1.trans (Fr.ext E3))
  iterate 2 refine fst1_ok X (dk rfl) rfl ?_
  refine putf_ok X flX10_28 ftX10_5 (Or.inl rfl) rfl rfl (dk rfl) M.obj (Nat.le_of_ble_eq_true rfl) ?_
  have M1 := M.fld da dr kn (Int32.ofInt 0)
  have F1 : Fr o S A h (hup h o (12, [.ref S, .ref A, .int da, .int dr, .int kn, .int (Int32.ofInt 0)])) := (Fr.rf h).set (Or.inl rfl) _
  refine ldc2_ok X cs10_230 (dk rfl) ?_
  obtain ⟨ss, s1, s2, s3⟩ := M1.slot
  have l6 : (ss.map Value.ref).length = 6 := by rw [List.length_map]; exact s1
  iterate 2 refine fst1_ok X (dk rfl) rfl ?_
  refine getf_ok X flX10_11 (dk rfl) M1.obj rfl ?_
  iterate 2 refine fst1_ok X (dk rfl) rfl ?_
  refine alen_ok X (by decide) (dk rfl) s2 ?_
  rw [l6]
  iterate 3 refine fst1_ok X (dk rfl) rfl ?_
  exact loopS 6 0 rfl (by omega) _ _ _ _ rfl M1 F1
set_option maxHeartbeats 4000000 in
theorem RF.c_text (h : AH) (M : MD h o S A sl an da dr kn th) (x1 : Int32) : CT la D cA B0 pa yX10_text cX10_text 2 (some (.object "java/lang/String")) (rmD 24 128 9600) [.ref o, .int x1] h (strR o S A sl an da dr kn h) := by
  refine CT_of (by decide +kernel) (Nat.le_of_ble_eq_true rfl) ?_
  intro p e s m args below meth c X E hr hlk hnm
  have dk : ∀ {pc : Nat} {q : Instr × Nat}, lkd DX10_text pc = some q → decode cX10_text pc = .ok q := lkd_ok DX10_text_ok
  have mid1 : ∀ t1 : Bool, (t1 = false → inN 6 x1) → WR p la e (rmD 24 128 9600) s m args below meth c D cA B0 2 (strR o S A sl an da dr kn h) 13 (lv_args 0 [.ref o, .int x1]) [.int (bI t1), .ref o] h 0 0 := by
    intro t1 ht1
    refine thr1_ok X E M ⟨Nat.le_of_ble_eq_true rfl, Nat.le_of_ble_eq_true rfl⟩ ⟨Nat.le_of_ble_eq_true rfl, Nat.le_of_ble_eq_true rfl⟩ (Nat.le_of_ble_eq_true rfl) (dk rfl) (fun h1 M1 F1 => ?_)
    cases hb : t1 with
    | true =>
      refine br_ok X (dk rfl) rfl (show ((16 : Nat) : Int) + 8 = ((24 : Nat) : Int) from rfl) (fun q => absurd q bI_t) (fun _ => ?_)
      refine ldcT_ok X E 0 (by decide) rfl rfl (dk rfl) ?_
      refine br_ok X (dk rfl) rfl (show ((21 : Nat) : Int) + 13 = ((34 : Nat) : Int) from rfl) (fun _ => ?_) (fun q => absurd trivial q)
      exact reta_ok X hr hlk (Or.inl ⟨_, rfl⟩) (Or.inr ⟨_, rfl⟩) (dk rfl) ⟨⟨_, rfl⟩, ⟨_, M1⟩, F1⟩ (Nat.zero_le _) (Nat.zero_le _)
    | false =>
      obtain ⟨j1, hj1, rfl⟩ := ht1 hb
      obtain ⟨ss, s1, s2, s3⟩ := M1.slot
      obtain ⟨as, a1, a2, a3⟩ := M1.ans
      obtain ⟨b1, y1, e1, f1, g1, w1, n1⟩ := s3 j1 hj1
      have ly1 : (y1.map vI).length = y1.length := List.length_map _
      refine br_ok X (dk rfl) rfl (show ((16 : Nat) : Int) + 8 = ((24 : Nat) : Int) from rfl) (fun _ => ?_) (fun q => absurd bI_f' q)
      repeat refine fst1_ok X (dk rfl) rfl ?_
      refine getf_ok X flX10_11 (dk rfl) M1.obj rfl ?_
      refine fst1_ok X (dk rfl) rfl ?_
      refine ldr_ok X (dk rfl) s2 e1 (by omega) ?_
      refine fst1_ok X (dk rfl) rfl ?_
      refine callS_ok (av := [.ref b1, vI 0]) (r := []) X E (c_textOf n1 w1.2 16 0 y1.length (by rw [List.drop_zero]; exact w1.1) n1 h1 g1) lkX10_textOf mlX10_193 lsX10_textOf ⟨Nat.le_of_ble_eq_true rfl, Nat.le_of_ble_eq_true rfl⟩ ⟨by show 0 + (8 * y1.length - 2) ≤ 128; omega, by show 0 + (600 * y1.length - 256) ≤ 9600; omega⟩ (Nat.le_of_ble_eq_true rfl) (dk rfl) ?_
      rintro v h2 ⟨n2, hn2, P2⟩
      obtain ⟨sa, va, rfl, -, -, -, XQ⟩ := id P2
      exact reta_ok X hr hlk (Or.inl ⟨_, rfl⟩) (Or.inr ⟨_, rfl⟩) (dk rfl) ⟨⟨_, rfl⟩, ⟨_, M1.ext XQ⟩, F1.trans (Fr.ext XQ)⟩ (by show 0 + (8 * y1.length - 2) ≤ 128; omega) (by show 0 + (600 * y1.length - 256) ≤ 9600; omega)
  iterate 2 refine fst1_ok X (dk rfl) rfl ?_
  refine isSlot_ok X E mlX10_95 ⟨Nat.le_of_ble_eq_true rfl, Nat.le_of_ble_eq_true rfl⟩ ⟨Nat.le_of_ble_eq_true rfl, Nat.le_of_ble_eq_true rfl⟩ (Nat.le_of_ble_eq_true rfl) (dk rfl) (fun mid1b0 mid1h0 mid1n0 => ?_)
  cases mid1b0 with
  | false =>
    refine br_ok X (dk rfl) rfl (show ((5 : Nat) : Int) + 7 = ((12 : Nat) : Int) from rfl) (fun q => absurd q bI_f) (fun _ => ?_)
    refine fst1_ok X (dk rfl) rfl ?_
    refine br_ok X (dk rfl) rfl (show ((9 : Nat) : Int) + 4 = ((13 : Nat) : Int) from rfl) (fun _ => ?_) (fun q => absurd trivial q)
    exact mid1 true (fun z => by cases z)
  | true =>
    refine br_ok X (dk rfl) rfl (show ((5 : Nat) : Int) + 7 = ((12 : Nat) : Int) from rfl) (fun _ => ?_) (fun q => absurd bI_t q)
    refine fst1_ok X (dk rfl) rfl ?_
    exact mid1 false (fun _ => mid1h0 rfl)
set_option maxHeartbeats 4000000 in
theorem RF.c_told (h : AH) (M : MD h o S A sl an da dr kn th) (x1 x2 : Int32) : CT la D cA B0 pa yX10_told cX10_told 3 (some (.object "java/lang/String")) (rmD 24 128 9600) [.ref o, .int x1, .int x2] h (strR o S A sl an da dr kn h) := by
  refine CT_of (by decide +kernel) (Nat.le_of_ble_eq_true rfl) ?_
  intro p e s m args below meth c X E hr hlk hnm
  have dk : ∀ {pc : Nat} {q : Instr × Nat}, lkd DX10_told pc = some q → decode cX10_told pc = .ok q := lkd_ok DX10_told_ok
  have mid2 : ∀ t1 t2 : Bool, (t1 = false → inN 3 x1) → (t2 = false → inN 8 x2) → WR p la e (rmD 24 128 9600) s m args below meth c D cA B0 3 (strR o S A sl an da dr kn h) 25 (lv_args 0 [.ref o, .int x1, .int x2]) [.int (bI t2), .int (bI t1), .ref o] h 0 0 := by
    intro t1 t2 ht1 ht2
    refine thr2_ok X E M ⟨Nat.le_of_ble_eq_true rfl, Nat.le_of_ble_eq_true rfl⟩ ⟨Nat.le_of_ble_eq_true rfl, Nat.le_of_ble_eq_true rfl⟩ (Nat.le_of_ble_eq_true rfl) (dk rfl) (fun h1 M1 F1 => ?_)
    cases hb : (t1 || t2) with
    | true =>
      refine br_ok X (dk rfl) rfl (show ((28 : Nat) : Int) + 8 = ((36 : Nat) : Int) from rfl) (fun q => absurd q bI_t) (fun _ => ?_)
      refine ldcT_ok X E 0 (by decide) rfl rfl (dk rfl) ?_
      refine br_ok X (dk rfl) rfl (show ((33 : Nat) : Int) + 15 = ((48 : Nat) : Int) from rfl) (fun _ => ?_) (fun q => absurd trivial q)
      exact reta_ok X hr hlk (Or.inl ⟨_, rfl⟩) (Or.inr ⟨_, rfl⟩) (dk rfl) ⟨⟨_, rfl⟩, ⟨_, M1⟩, F1⟩ (Nat.zero_le _) (Nat.zero_le _)
    | false =>
      obtain ⟨hb1, hb2⟩ := Bool.or_eq_false_iff.mp hb
      obtain ⟨j1, hj1, rfl⟩ := ht1 hb1
      obtain ⟨j2, hj2, rfl⟩ := ht2 hb2
      obtain ⟨ss, s1, s2, s3⟩ := M1.slot
      obtain ⟨as, a1, a2, a3⟩ := M1.ans
      obtain ⟨b1, y1, e1, f1, g1, w1, n1⟩ := a3 j1 hj1
      have bl : y1.length = 8 := w1.1
      obtain ⟨as1, as2, as3, as4⟩ := g1.row
      refine br_ok X (dk rfl) rfl (show ((28 : Nat) : Int) + 8 = ((36 : Nat) : Int) from rfl) (fun _ => ?_) (fun q => absurd bI_f' q)
      repeat refine fst1_ok X (dk rfl) rfl ?_
      refine getf_ok X flX10_16 (dk rfl) M1.obj rfl ?_
      refine fst1_ok X (dk rfl) rfl ?_
      refine lda_ok X (dk rfl) a2 e1 (by omega) ?_
      refine fst1_ok X (dk rfl) rfl ?_
      obtain ⟨c2, y2, i5, i6, i7⟩ := as4 j2 (by omega)
      have t2 := w1.2 y2 (List.mem_of_getElem? i6)
      refine ldr_ok X (dk rfl) as3 i5 (by omega) ?_
      refine fst1_ok X (dk rfl) rfl ?_
      refine callS_ok (av := [.ref c2, vI 0]) (r := []) X E (c_textOf t2.2 t2.1.2 16 0 y2.length (by rw [List.drop_zero]; exact t2.1.1) t2.2 h1 i7) lkX10_textOf mlX10_193 lsX10_textOf ⟨Nat.le_of_ble_eq_true rfl, Nat.le_of_ble_eq_true rfl⟩ ⟨by show 0 + (8 * y2.length - 2) ≤ 128; omega, by show 0 + (600 * y2.length - 256) ≤ 9600; omega⟩ (Nat.le_of_ble_eq_true rfl) (dk rfl) ?_
      rintro v h2 ⟨n2, hn2, P2⟩
      obtain ⟨sa, va, rfl, -, -, -, XQ⟩ := id P2
      exact reta_ok X hr hlk (Or.inl ⟨_, rfl⟩) (Or.inr ⟨_, rfl⟩) (dk rfl) ⟨⟨_, rfl⟩, ⟨_, M1.ext XQ⟩, F1.trans (Fr.ext XQ)⟩ (by show 0 + (8 * y2.length - 2) ≤ 128; omega) (by show 0 + (600 * y2.length - 256) ≤ 9600; omega)
  have mid1 : ∀ t1 : Bool, (t1 = false → inN 3 x1) → WR p la e (rmD 24 128 9600) s m args below meth c D cA B0 3 (strR o S A sl an da dr kn h) 13 (lv_args 0 [.ref o, .int x1, .int x2]) [.int (bI t1), .ref o] h 0 0 := by
    intro t1 ht1
    have mid2 := fun t2 => mid2 t1 t2 ht1
    iterate 1 refine fst1_ok X (dk rfl) rfl ?_
    refine isName_ok X E mlX10_99 ⟨Nat.le_of_ble_eq_true rfl, Nat.le_of_ble_eq_true rfl⟩ ⟨Nat.le_of_ble_eq_true rfl, Nat.le_of_ble_eq_true rfl⟩ (Nat.le_of_ble_eq_true rfl) (dk rfl) (fun mid2b0 mid2h0 mid2n0 => ?_)
    cases mid2b0 with
    | false =>
      refine br_ok X (dk rfl) rfl (show ((17 : Nat) : Int) + 7 = ((24 : Nat) : Int) from rfl) (fun q => absurd q bI_f) (fun _ => ?_)
      refine fst1_ok X (dk rfl) rfl ?_
      refine br_ok X (dk rfl) rfl (show ((21 : Nat) : Int) + 4 = ((25 : Nat) : Int) from rfl) (fun _ => ?_) (fun q => absurd trivial q)
      exact mid2 true (fun z => by cases z)
    | true =>
      refine br_ok X (dk rfl) rfl (show ((17 : Nat) : Int) + 7 = ((24 : Nat) : Int) from rfl) (fun _ => ?_) (fun q => absurd bI_t q)
      refine fst1_ok X (dk rfl) rfl ?_
      exact mid2 false (fun _ => mid2h0 rfl)
  iterate 2 refine fst1_ok X (dk rfl) rfl ?_
  refine isAnswer_ok X E mlX10_135 ⟨Nat.le_of_ble_eq_true rfl, Nat.le_of_ble_eq_true rfl⟩ ⟨Nat.le_of_ble_eq_true rfl, Nat.le_of_ble_eq_true rfl⟩ (Nat.le_of_ble_eq_true rfl) (dk rfl) (fun mid1b0 mid1h0 mid1n0 => ?_)
  cases mid1b0 with
  | false =>
    refine br_ok X (dk rfl) rfl (show ((5 : Nat) : Int) + 7 = ((12 : Nat) : Int) from rfl) (fun q => absurd q bI_f) (fun _ => ?_)
    refine fst1_ok X (dk rfl) rfl ?_
    refine br_ok X (dk rfl) rfl (show ((9 : Nat) : Int) + 4 = ((13 : Nat) : Int) from rfl) (fun _ => ?_) (fun q => absurd trivial q)
    exact mid1 true (fun z => by cases z)
  | true =>
    refine br_ok X (dk rfl) rfl (show ((5 : Nat) : Int) + 7 = ((12 : Nat) : Int) from rfl) (fun _ => ?_) (fun q => absurd bI_t q)
    refine fst1_ok X (dk rfl) rfl ?_
    exact mid1 false (fun _ => mid1h0 rfl)
end E2
