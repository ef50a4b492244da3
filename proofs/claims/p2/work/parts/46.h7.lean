/-! head, weight -/
theorem get3 {j1 j2 j3 n : Nat} (h1 : j1 < n) (h2 : j2 < n) (h3 : j3 < n) : ∀ i, i < 3 → ∃ j, [j1, j2, j3][i]? = some j ∧ j < n
  | 0, _ => ⟨j1, rfl, h1⟩
  | 1, _ => ⟨j2, rfl, h2⟩
  | 2, _ => ⟨j3, rfl, h3⟩
  | i + 3, h => by omega
/-- how many of the first places of a set are in it -/
def cntN (m : Nat) : Nat → Nat
  | 0 => 0
  | k + 1 => cntN m k + m >>> k % 2
theorem cnt_bc {m : Nat} (h : m < 256) : bcF (nI m) = nI (cntN m 8) ∧ cntN m 8 ≤ 8 := by
  have : ∀ m : Nat, m < 256 → bcF (nI m) = nI (cntN m 8) ∧ cntN m 8 ≤ 8 := by decide +kernel
  exact this m h
theorem bit8 {m k : Nat} (h : m < 256) (hk : k < 8) : (nI m >>> (nI k &&& 31)) &&& Int32.ofInt 1 = nI (m >>> k % 2) := by
  have : ∀ k : Nat, k < 8 → ∀ m : Nat, m < 256 → (nI m >>> (nI k &&& 31)) &&& Int32.ofInt 1 = nI (m >>> k % 2) := by decide +kernel
  exact this k hk m h
theorem movedN_lt (rows : List (List Nat)) : ∀ k : Nat, movedN rows k < 2 ^ k
  | 0 => by simp [movedN]
  | k + 1 => by
    have ih := movedN_lt rows k
    unfold movedN
    split
    · rw [Nat.pow_succ]; omega
    · exact Nat.or_lt_two_pow (by rw [Nat.pow_succ]; omega) (Nat.pow_lt_pow_right (by omega) (by omega))
theorem cnt_mono (m : Nat) {a : Nat} : ∀ {b : Nat}, a ≤ b → cntN m a ≤ cntN m b
  | 0, h => by rw [show a = 0 by omega]; exact Nat.le_refl _
  | b + 1, h => by
    by_cases e : a = b + 1
    · rw [e]; exact Nat.le_refl _
    · have := cnt_mono m (a := a) (b := b) (by omega)
      show cntN m a ≤ cntN m b + m >>> b % 2
      omega
section M39
variable {la : Launch} {D : va_G} {cA : Nat → ClassId} {B0 pa : Nat} {o S A : Nat} {sl : List (List Nat)} {an : List (List (List Nat))} {a r kn th : Int32}
set_option maxHeartbeats 4000000 in
theorem c_head (h : AH) (M : MD h o S A sl an a r kn th) (x1 x2 x3 x4 x5 : Int32) : CT la D cA B0 pa yX10_head cX10_head 9 (some .int) (rmD 2 5 200) [.ref o, .int x1, .int x2, .int x3, .int x4, .int x5] h (intR o S A kn h) := by
  refine CT_of (by decide +kernel) (Nat.le_of_ble_eq_true rfl) ?_
  intro p e s m args below meth c X E hr hlk hnm
  have dk : ∀ {pc : Nat} {q : Instr × Nat}, lkd DX10_head pc = some q → decode cX10_head pc = .ok q := lkd_ok DX10_head_ok
  have mid2 : ∀ t1 t2 : Bool, (t1 = false → inN 6 x1 ∧ inN 6 x3 ∧ inN 6 x4 ∧ inN 6 x5) → (t2 = false → inN 8 x2) → WR p la e (rmD 2 5 200) s m args below meth c D cA B0 9 (intR o S A kn h) 48 (lv_args 0 [.ref o, .int x1, .int x2, .int x3, .int x4, .int x5]) [.int (bI t2), .int (bI t1), .ref o] h 0 0 := by
    intro t1 t2 ht1 ht2
    refine thr2_ok X E M ⟨Nat.le_of_ble_eq_true rfl, Nat.le_of_ble_eq_true rfl⟩ ⟨Nat.le_of_ble_eq_true rfl, Nat.le_of_ble_eq_true rfl⟩ (Nat.le_of_ble_eq_true rfl) (dk rfl) (fun h1 a1 r1 th1 M1 F1 => ?_)
    cases hb : (t1 || t2) with
    | true =>
      refine br_ok X (dk rfl) rfl (show ((51 : Nat) : Int) + 5 = ((56 : Nat) : Int) from rfl) (fun q => absurd q bI_t) (fun _ => ?_)
      refine fst1_ok X (dk rfl) rfl ?_
      exact reti_ok X hr hlk rfl (dk rfl) ⟨⟨_, rfl⟩, ⟨_, _, _, _, _, M1⟩, F1⟩ (Nat.zero_le _) (Nat.zero_le _)
    | false =>
      refine br_ok X (dk rfl) rfl (show ((51 : Nat) : Int) + 5 = ((56 : Nat) : Int) from rfl) (fun _ => ?_) (fun q => absurd bI_f' q)
      obtain ⟨hb1, hb2⟩ := Bool.or_eq_false_iff.mp hb
      obtain ⟨⟨j1, hj1, rfl⟩, ⟨j3, hj3, rfl⟩, ⟨j4, hj4, rfl⟩, ⟨j5, hj5, rfl⟩⟩ := ht1 hb1
      obtain ⟨j2, hj2, rfl⟩ := ht2 hb2
      obtain ⟨ss, s1, s2, s3⟩ := M1.slot
      obtain ⟨as, a1, a2, a3⟩ := M1.ans
      obtain ⟨b1, y1, e1, f1, g1, w1, n1⟩ := s3 j1 hj1
      have ly1 : (y1.map vI).length = y1.length := List.length_map _
      obtain ⟨b3, y3, e3, f3, g3, w3, n3⟩ := s3 j3 hj3
      have ly3 : (y3.map vI).length = y3.length := List.length_map _
      obtain ⟨b4, y4, e4, f4, g4, w4, n4⟩ := s3 j4 hj4
      have ly4 : (y4.map vI).length = y4.length := List.length_map _
      obtain ⟨b5, y5, e5, f5, g5, w5, n5⟩ := s3 j5 hj5
      have ly5 : (y5.map vI).length = y5.length := List.length_map _
      refine fst1_ok X (dk rfl) rfl ?_
      refine newI_ok (N := 3) X (by decide) (dk rfl) (by decide) (by decide) (fun F hF hBF => ?_)
      repeat refine fst1_ok X (dk rfl) rfl ?_
      refine sti_ok (j := 0) X (dk rfl) (hup_self _ _ _) (by simp) (by simp) ?_
      rw [hup_hup]
      repeat refine fst1_ok X (dk rfl) rfl ?_
      refine sti_ok (j := 1) X (dk rfl) (hup_self _ _ _) (by simp) (by simp) ?_
      rw [hup_hup]
      repeat refine fst1_ok X (dk rfl) rfl ?_
      refine sti_ok (j := 2) X (dk rfl) (hup_self _ _ _) (by simp) (by simp) ?_
      rw [hup_hup]
      have eF : ((100, (((List.replicate 3 (Value.int 0)).set 0 (.int (nI j3))).set 1 (.int (nI j4))).set 2 (.int (nI j5))) : AC) = IA [j3, j4, j5] := rfl
      rw [eF]
      have XF := Ext.new hF (IA [j3, j4, j5])
      repeat refine fst1_ok X (dk rfl) rfl ?_
      rw [nI_10, nI_add]
      refine callS_ok (av := [vI (10 + j2)]) (r := []) X E (c_row _ (10 + j2)) lkX10_row mlX10_20 lsX10_row ⟨Nat.le_of_ble_eq_true rfl, Nat.le_of_ble_eq_true rfl⟩ ⟨Nat.le_of_ble_eq_true rfl, Nat.le_of_ble_eq_true rfl⟩ (Nat.le_of_ble_eq_true rfl) (dk rfl) ?_
      rintro v h2 ⟨u0, rfl, hu0, hBu0, rfl⟩
      have XR := XF.trans (Ext.new hu0 (IA [10 + j2]))
      have hF2 : hup (hup h1 F (IA [j3, j4, j5])) u0 (IA [10 + j2]) F = some (IA [j3, j4, j5]) := Ext.new hu0 _ _ _ (hup_self _ _ _)
      have p3 : pF (10 + j2) ≤ 3 := by unfold pF; rw [if_neg (by omega)]; omega
      have loop : ∀ (d i : Nat), d = pF (10 + j2) - i → i ≤ pF (10 + j2) → ∀ (hh : AH) (u : Nat) (W : List Nat) (l : List (Nat × Value)), lsel l [8, 7, 6, 2, 1, 0] = [(8, vI i), (7, .ref u), (6, .ref F), (2, vI j2), (1, vI j1), (0, .ref o)] → Ext h1 hh → hh F = some (IA [j3, j4, j5]) → hh u = some (IA W) → Wnt W (pF (10 + j2) - i) → W.length ≤ 1 + 16 * i → WR p la e (rmD 2 5 200) s m args below meth c D cA B0 9 (intR o S A kn h) 87 l [] hh (2 + i) (4 + 64 * i) := by
        intro d
        induction d with
        | zero =>
          intro i hd hi hh u W l hl XX hFh hu hW hlen
          have hi2 : i = pF (10 + j2) := by omega
          subst hi2
          have M2 := M1.ext XX
          rw [Nat.sub_self] at hW
          have tW := hW.tw
          refine WS.sel [8, 7, 6, 2, 1, 0] hl ?_
          repeat refine fst1_ok X (dk rfl) rfl ?_
          rw [nI_10, nI_add]
          refine callS_ok (av := [vI (10 + j2)]) (r := [vI (pF (10 + j2))]) X E (c_parts hh (x := 10 + j2) (by omega)) lkX10_parts mlX10_32 lsX10_parts ⟨Nat.le_of_ble_eq_true rfl, Nat.le_of_ble_eq_true rfl⟩ ⟨by show 2 + pF (10 + j2) + 0 ≤ 5; omega, by show 4 + 64 * pF (10 + j2) + 0 ≤ 200; omega⟩ (Nat.le_of_ble_eq_true rfl) (dk rfl) ?_
          rintro v h3 ⟨rfl, rfl⟩
          refine br_ok X (dk rfl) rfl (show ((96 : Nat) : Int) + 26 = ((122 : Nat) : Int) from rfl) (fun _ => ?_) (fun c1 => absurd (Int32.le_refl _) c1)
          repeat refine fst1_ok X (dk rfl) rfl ?_
          refine callV_ok (ci := 12) (T := TX10) (N := 6) (av := [vI j1, .ref u]) (r := []) X E (c_give _ M2 hj1 hu tW (by omega)) lkX10_give mlX10_106 lmX10_give lpX10_give ⟨Nat.le_of_ble_eq_true rfl, Nat.le_of_ble_eq_true rfl⟩ ⟨by show 2 + pF (10 + j2) + 0 + 0 ≤ 5; omega, by show 4 + 64 * pF (10 + j2) + 0 + 0 ≤ 200; omega⟩ rfl M2.obj (Nat.le_of_ble_eq_true rfl) (dk rfl) ?_
          rintro v h9 ⟨⟨w9, rfl⟩, I9⟩
          exact reti_ok X hr hlk rfl (dk rfl) ⟨⟨_, rfl⟩, MI.trans (F1.trans (Fr.ext XX)) I9⟩ (by show 2 + pF (10 + j2) + 0 + 0 ≤ 5; omega) (by show 4 + 64 * pF (10 + j2) + 0 + 0 ≤ 200; omega)
        | succ d ih =>
          intro i hd hi hh u W l hl XX hFh hu hW hlen
          have M2 := M1.ext XX
          obtain ⟨jj, q1, q2⟩ := get3 hj3 hj4 hj5 i (by omega)
          obtain ⟨bb, yy, v1, v2, v3, v4, v5⟩ := s3 jj q2
          have f2 : Value.int (nI i + Int32.ofInt 1) = vI (i + 1) := congrArg Value.int (by rw [nI_1', nI_add])
          refine WS.sel [8, 7, 6, 2, 1, 0] hl ?_
          repeat refine fst1_ok X (dk rfl) rfl ?_
          rw [nI_10, nI_add]
          refine callS_ok (av := [vI (10 + j2)]) (r := [vI i]) X E (c_parts hh (x := 10 + j2) (by omega)) lkX10_parts mlX10_32 lsX10_parts ⟨Nat.le_of_ble_eq_true rfl, Nat.le_of_ble_eq_true rfl⟩ ⟨by show 2 + i + 0 ≤ 5; omega, by show 4 + 64 * i + 0 ≤ 200; omega⟩ (Nat.le_of_ble_eq_true rfl) (dk rfl) ?_
          rintro v h3 ⟨rfl, rfl⟩
          refine br_ok X (dk rfl) rfl (show ((96 : Nat) : Int) + 26 = ((122 : Nat) : Int) from rfl) (fun c1 => absurd c1 (nI_ge (by omega) (by omega))) (fun _ => ?_)
          repeat refine fst1_ok X (dk rfl) rfl ?_
          refine getf_ok X flX10_11 (dk rfl) M2.obj rfl ?_
          repeat refine fst1_ok X (dk rfl) rfl ?_
          refine ald_ok (kd := 100) (vs := [j3, j4, j5].map vI) X (Or.inl ⟨rfl, rfl⟩) (dk rfl) hFh (inA_nI (by omega) (IA_get q1)) ?_
          refine ldr_ok X (dk rfl) (XX _ _ s2) v1 (by omega) ?_
          refine callS_ok (av := [.ref u, .ref bb]) (r := []) X E (c_joined _ hu (XX _ _ v3) (by omega) (by omega)) lkX10_joined mlX10_102 lsX10_joined ⟨Nat.le_of_ble_eq_true rfl, Nat.le_of_ble_eq_true rfl⟩ ⟨by show 2 + i + 0 + 1 ≤ 5; omega, by show 4 + 64 * i + 0 + (W.length + yy.length) ≤ 200; omega⟩ (Nat.le_of_ble_eq_true rfl) (dk rfl) ?_
          rintro v h3 ⟨u2, rfl, hu2, hBu2, rfl⟩
          have X2 := Ext.new hu2 (IA (W ++ yy))
          repeat refine fst1_ok X (dk rfl) rfl ?_
          refine br_ok X (dk rfl) rfl (show ((119 : Nat) : Int) + (-32) = ((87 : Nat) : Int) from rfl) (fun _ => ?_) (fun q => absurd trivial q)
          refine WS.widen (k' := 2 + (i + 1)) (n' := 4 + 64 * (i + 1)) (by show 2 + i + 0 + 1 ≤ 2 + (i + 1); omega) (by show 4 + 64 * i + 0 + (W.length + yy.length) ≤ 4 + 64 * (i + 1); omega) ?_
          refine WS.sel (l' := [(8, vI (i + 1)), (7, .ref u2), (6, .ref F), (2, vI j2), (1, vI j1), (0, .ref o)]) [8, 7, 6, 2, 1, 0] (by rw [← f2]; rfl) ?_
          refine ih (i + 1) (by omega) (by omega) _ _ _ _ rfl (XX.trans X2) (X2 _ _ hFh) (hup_self _ _ _) ?_ (by rw [List.length_append]; omega)
          rw [show pF (10 + j2) - i = (pF (10 + j2) - (i + 1)) + 1 by omega] at hW
          exact hW.more v4
      iterate 3 refine fst1_ok X (dk rfl) rfl ?_
      exact loop _ 0 rfl (Nat.zero_le _) _ _ _ _ rfl XR hF2 (hup_self _ _ _) (Wnt.head (Or.inr ⟨by omega, by omega⟩)) (by simp)
  have mid1 : ∀ t1 : Bool, (t1 = false → inN 6 x1 ∧ inN 6 x3 ∧ inN 6 x4 ∧ inN 6 x5) → WR p la e (rmD 2 5 200) s m args below meth c D cA B0 9 (intR o S A kn h) 36 (lv_args 0 [.ref o, .int x1, .int x2, .int x3, .int x4, .int x5]) [.int (bI t1), .ref o] h 0 0 := by
    intro t1 ht1
    have mid2 := fun t2 => mid2 t1 t2 ht1
    iterate 1 refine fst1_ok X (dk rfl) rfl ?_
    refine isName_ok X E mlX10_99 ⟨Nat.le_of_ble_eq_true rfl, Nat.le_of_ble_eq_true rfl⟩ ⟨Nat.le_of_ble_eq_true rfl, Nat.le_of_ble_eq_true rfl⟩ (Nat.le_of_ble_eq_true rfl) (dk rfl) (fun mid2b0 mid2h0 => ?_)
    cases mid2b0 with
    | false =>
      refine br_ok X (dk rfl) rfl (show ((40 : Nat) : Int) + 7 = ((47 : Nat) : Int) from rfl) (fun q => absurd q bI_f) (fun _ => ?_)
      refine fst1_ok X (dk rfl) rfl ?_
      refine br_ok X (dk rfl) rfl (show ((44 : Nat) : Int) + 4 = ((48 : Nat) : Int) from rfl) (fun _ => ?_) (fun q => absurd trivial q)
      exact mid2 true (fun z => by cases z)
    | true =>
      refine br_ok X (dk rfl) rfl (show ((40 : Nat) : Int) + 7 = ((47 : Nat) : Int) from rfl) (fun _ => ?_) (fun q => absurd bI_t q)
      refine fst1_ok X (dk rfl) rfl ?_
      exact mid2 false (fun _ => mid2h0 rfl)
  iterate 2 refine fst1_ok X (dk rfl) rfl ?_
  refine isSlot_ok X E mlX10_95 ⟨Nat.le_of_ble_eq_true rfl, Nat.le_of_ble_eq_true rfl⟩ ⟨Nat.le_of_ble_eq_true rfl, Nat.le_of_ble_eq_true rfl⟩ (Nat.le_of_ble_eq_true rfl) (dk rfl) (fun mid1b0 mid1h0 => ?_)
  cases mid1b0 with
  | false =>
    refine br_ok X (dk rfl) rfl (show ((5 : Nat) : Int) + 26 = ((31 : Nat) : Int) from rfl) (fun _ => ?_) (fun q => absurd bI_f' q)
    refine fst1_ok X (dk rfl) rfl ?_
    refine br_ok X (dk rfl) rfl (show ((32 : Nat) : Int) + 4 = ((36 : Nat) : Int) from rfl) (fun _ => ?_) (fun q => absurd trivial q)
    exact mid1 true (fun z => by cases z)
  | true =>
    refine br_ok X (dk rfl) rfl (show ((5 : Nat) : Int) + 26 = ((31 : Nat) : Int) from rfl) (fun q => absurd q bI_t) (fun _ => ?_)
    iterate 1 refine fst1_ok X (dk rfl) rfl ?_
    refine isSlot_ok X E mlX10_95 ⟨Nat.le_of_ble_eq_true rfl, Nat.le_of_ble_eq_true rfl⟩ ⟨Nat.le_of_ble_eq_true rfl, Nat.le_of_ble_eq_true rfl⟩ (Nat.le_of_ble_eq_true rfl) (dk rfl) (fun mid1b1 mid1h1 => ?_)
    cases mid1b1 with
    | false =>
      refine br_ok X (dk rfl) rfl (show ((12 : Nat) : Int) + 19 = ((31 : Nat) : Int) from rfl) (fun _ => ?_) (fun q => absurd bI_f' q)
      refine fst1_ok X (dk rfl) rfl ?_
      refine br_ok X (dk rfl) rfl (show ((32 : Nat) : Int) + 4 = ((36 : Nat) : Int) from rfl) (fun _ => ?_) (fun q => absurd trivial q)
      exact mid1 true (fun z => by cases z)
    | true =>
      refine br_ok X (dk rfl) rfl (show ((12 : Nat) : Int) + 19 = ((31 : Nat) : Int) from rfl) (fun q => absurd q bI_t) (fun _ => ?_)
      iterate 1 refine fst1_ok X (dk rfl) rfl ?_
      refine isSlot_ok X E mlX10_95 ⟨Nat.le_of_ble_eq_true rfl, Nat.le_of_ble_eq_true rfl⟩ ⟨Nat.le_of_ble_eq_true rfl, Nat.le_of_ble_eq_true rfl⟩ (Nat.le_of_ble_eq_true rfl) (dk rfl) (fun mid1b2 mid1h2 => ?_)
      cases mid1b2 with
      | false =>
        refine br_ok X (dk rfl) rfl (show ((20 : Nat) : Int) + 11 = ((31 : Nat) : Int) from rfl) (fun _ => ?_) (fun q => absurd bI_f' q)
        refine fst1_ok X (dk rfl) rfl ?_
        refine br_ok X (dk rfl) rfl (show ((32 : Nat) : Int) + 4 = ((36 : Nat) : Int) from rfl) (fun _ => ?_) (fun q => absurd trivial q)
        exact mid1 true (fun z => by cases z)
      | true =>
        refine br_ok X (dk rfl) rfl (show ((20 : Nat) : Int) + 11 = ((31 : Nat) : Int) from rfl) (fun q => absurd q bI_t) (fun _ => ?_)
        iterate 1 refine fst1_ok X (dk rfl) rfl ?_
        refine isSlot_ok X E mlX10_95 ⟨Nat.le_of_ble_eq_true rfl, Nat.le_of_ble_eq_true rfl⟩ ⟨Nat.le_of_ble_eq_true rfl, Nat.le_of_ble_eq_true rfl⟩ (Nat.le_of_ble_eq_true rfl) (dk rfl) (fun mid1b3 mid1h3 => ?_)
        cases mid1b3 with
        | false =>
          refine br_ok X (dk rfl) rfl (show ((28 : Nat) : Int) + 7 = ((35 : Nat) : Int) from rfl) (fun q => absurd q bI_f) (fun _ => ?_)
          refine fst1_ok X (dk rfl) rfl ?_
          refine br_ok X (dk rfl) rfl (show ((32 : Nat) : Int) + 4 = ((36 : Nat) : Int) from rfl) (fun _ => ?_) (fun q => absurd trivial q)
          exact mid1 true (fun z => by cases z)
        | true =>
          refine br_ok X (dk rfl) rfl (show ((28 : Nat) : Int) + 7 = ((35 : Nat) : Int) from rfl) (fun _ => ?_) (fun q => absurd bI_t q)
          refine fst1_ok X (dk rfl) rfl ?_
          exact mid1 false (fun _ => ⟨mid1h0 rfl, mid1h1 rfl, mid1h2 rfl, mid1h3 rfl⟩)
set_option maxHeartbeats 4000000 in
theorem c_weight (h : AH) (M : MD h o S A sl an a r kn th) (x1 x2 : Int32) : CT la D cA B0 pa yX10_weight cX10_weight 8 (some .int) (rmD 5 9 16) [.ref o, .int x1, .int x2] h (intR o S A kn h) := by
  refine CT_of (by decide +kernel) (Nat.le_of_ble_eq_true rfl) ?_
  intro p e s m args below meth c X E hr hlk hnm
  have dk : ∀ {pc : Nat} {q : Instr × Nat}, lkd DX10_weight pc = some q → decode cX10_weight pc = .ok q := lkd_ok DX10_weight_ok
  have mid1 : ∀ t1 : Bool, (t1 = false → inN 3 x1) → WR p la e (rmD 5 9 16) s m args below meth c D cA B0 8 (intR o S A kn h) 13 (lv_args 0 [.ref o, .int x1, .int x2]) [.int (bI t1), .ref o] h 0 0 := by
    intro t1 ht1
    refine thr1_ok X E M ⟨Nat.le_of_ble_eq_true rfl, Nat.le_of_ble_eq_true rfl⟩ ⟨Nat.le_of_ble_eq_true rfl, Nat.le_of_ble_eq_true rfl⟩ (Nat.le_of_ble_eq_true rfl) (dk rfl) (fun h1 a1 r1 th1 M1 F1 => ?_)
    cases hb : t1 with
    | true =>
      refine br_ok X (dk rfl) rfl (show ((16 : Nat) : Int) + 5 = ((21 : Nat) : Int) from rfl) (fun q => absurd q bI_t) (fun _ => ?_)
      refine fst1_ok X (dk rfl) rfl ?_
      exact reti_ok X hr hlk rfl (dk rfl) ⟨⟨_, rfl⟩, ⟨_, _, _, _, _, M1⟩, F1⟩ (Nat.zero_le _) (Nat.zero_le _)
    | false =>
      refine br_ok X (dk rfl) rfl (show ((16 : Nat) : Int) + 5 = ((21 : Nat) : Int) from rfl) (fun _ => ?_) (fun q => absurd bI_f' q)
      obtain ⟨j1, hj1, rfl⟩ := ht1 hb
      obtain ⟨ss, s1, s2, s3⟩ := M1.slot
      obtain ⟨as, a1, a2, a3⟩ := M1.ans
      obtain ⟨b1, y1, e1, f1, g1, w1, n1⟩ := a3 j1 hj1
      repeat refine fst1_ok X (dk rfl) rfl ?_
      refine getf_ok X flX10_16 (dk rfl) M1.obj rfl ?_
      refine fst1_ok X (dk rfl) rfl ?_
      refine lda_ok X (dk rfl) a2 e1 (by omega) ?_
      obtain ⟨as1, as2, as3, as4⟩ := g1.row
      refine callS_ok (av := [.ref b1]) (r := []) X E (c_movedBy h1 g1 w1) lkX10_movedBy mlX10_141 lsX10_movedBy ⟨Nat.le_of_ble_eq_true rfl, Nat.le_of_ble_eq_true rfl⟩ ⟨Nat.le_of_ble_eq_true rfl, Nat.le_of_ble_eq_true rfl⟩ (Nat.le_of_ble_eq_true rfl) (dk rfl) ?_
      rintro v h2 ⟨rfl, E1⟩
      have hm := movedN_lt y1 8
      generalize movedN y1 8 = mm at hm
      obtain ⟨hc1, hc2⟩ := cnt_bc (m := mm) (by omega)
      repeat refine fst1_ok X (dk rfl) rfl ?_
      refine callS_ok (av := [vI mm]) (r := []) X E (c_ones h2 (nI mm)) lkX10_ones mlX10_128 lsX10_ones ⟨Nat.le_of_ble_eq_true rfl, Nat.le_of_ble_eq_true rfl⟩ ⟨Nat.le_of_ble_eq_true rfl, Nat.le_of_ble_eq_true rfl⟩ (Nat.le_of_ble_eq_true rfl) (dk rfl) ?_
      rintro v h3 ⟨rfl, rfl⟩
      rw [hc1]
      refine newR_ok (N := cntN mm 8) (kd := 105) X E (by decide) cl10_9 (by omega) (dk rfl) (Nat.le_of_ble_eq_true rfl) (by show 8 + 0 + cntN mm 8 ≤ 16; omega) (fun F hF hBF => ?_)
      have M2 := M1.ext E1
      have e0 : ((105, List.replicate (cntN mm 8) Value.null) : AC) = (105, filR [] (cntN mm 8)) := by rw [filR_0]
      rw [e0]
      refine WS.widen (k' := 9) (n' := 16) (Nat.le_of_ble_eq_true rfl) (by show 8 + 0 + cntN mm 8 ≤ 16; omega) ?_
      have loop : ∀ (d i : Nat), d = 8 - i → i ≤ 8 → ∀ (hh : AH) (rs : List Nat) (rows : List (List Nat)) (z : Int32) (l : List (Nat × Value)), lsel l [7, 6, 5, 4, 3, 2, 1, 0] = [(7, vI i), (6, .int z), (5, vI (cntN mm i)), (4, .ref F), (3, vI mm), (2, .int x2), (1, vI j1), (0, .ref o)] → Ext h3 hh → rs.length = cntN mm i → rows.length = rs.length → hh F = some (105, filR rs (cntN mm 8)) → (∀ (k u : Nat) (w : List Nat), rs[k]? = some u → rows[k]? = some w → hh u = some (IA w)) → (∀ w ∈ rows, TW w ∧ w.length ≤ 16) → WR p la e (rmD 5 9 16) s m args below meth c D cA B0 8 (intR o S A kn h) 49 l [] hh 9 16 := by
        intro d
        induction d with
        | zero =>
          intro i hd hi hh rs rows z l hl XX h1l h2l hFh hrs hro
          have hi2 : i = 8 := by omega
          subst hi2
          have M3 := M2.ext XX
          refine WS.sel [7, 6, 5, 4, 3, 2, 1, 0] hl ?_
          repeat refine fst1_ok X (dk rfl) rfl ?_
          refine br_ok X (dk rfl) rfl (show ((53 : Nat) : Int) + 53 = ((106 : Nat) : Int) from rfl) (fun _ => ?_) (fun c1 => absurd (by decide) c1)
          repeat refine fst1_ok X (dk rfl) rfl ?_
          refine br_ok X (dk rfl) rfl (show ((107 : Nat) : Int) + 11 = ((118 : Nat) : Int) from rfl) (fun _ => ?_) (fun _ => ?_)
          · repeat refine fst1_ok X (dk rfl) rfl ?_
            exact reti_ok X hr hlk rfl (dk rfl) ⟨⟨_, rfl⟩, ⟨_, _, _, _, _, M3⟩, F1.trans (Fr.ext (E1.trans XX))⟩ (Nat.le_refl _) (Nat.le_refl _)
          · have hA : Ans hh F rows := ⟨rs, h2l.symm, by rw [hFh, ← h1l, filR_end], hrs⟩
            repeat refine fst1_ok X (dk rfl) rfl ?_
            refine callS_ok (av := [.ref F]) (r := []) X E (c_sharedOf hh hA ⟨by omega, hro⟩) lkX10_sharedOf mlX10_199 lsX10_sharedOf ⟨Nat.le_of_ble_eq_true rfl, Nat.le_of_ble_eq_true rfl⟩ ⟨Nat.le_of_ble_eq_true rfl, Nat.le_of_ble_eq_true rfl⟩ (Nat.le_of_ble_eq_true rfl) (dk rfl) ?_
            rintro v h4 ⟨⟨w, rfl⟩, rfl⟩
            refine br_ok X (dk rfl) rfl (show ((115 : Nat) : Int) + 5 = ((120 : Nat) : Int) from rfl) (fun _ => ?_) (fun q => absurd trivial q)
            exact reti_ok X hr hlk rfl (dk rfl) ⟨⟨_, rfl⟩, ⟨_, _, _, _, _, M3⟩, F1.trans (Fr.ext (E1.trans XX))⟩ (Nat.le_of_ble_eq_true rfl) (Nat.le_of_ble_eq_true rfl)
        | succ d ih =>
          intro i hd hi hh rs rows z l hl XX h1l h2l hFh hrs hro
          have M3 := M2.ext XX
          obtain ⟨c5, z5, i5, i6, i7⟩ := as4 i (by rw [w1.1]; omega)
          have t5 := w1.2 z5 (List.mem_of_getElem? i6)
          have f2 : Value.int (nI i + Int32.ofInt 1) = vI (i + 1) := congrArg Value.int (by rw [nI_1', nI_add])
          have cs : cntN mm (i + 1) = cntN mm i + mm >>> i % 2 := rfl
          have cm := cnt_mono mm (a := i + 1) (b := 8) (by omega)
          refine WS.sel [7, 6, 5, 4, 3, 2, 1, 0] hl ?_
          repeat refine fst1_ok X (dk rfl) rfl ?_
          refine br_ok X (dk rfl) rfl (show ((53 : Nat) : Int) + 53 = ((106 : Nat) : Int) from rfl) (fun c1 => absurd c1 (nI_ge (a := i) (b := 8) (by omega) (by omega))) (fun _ => ?_)
          repeat refine fst1_ok X (dk rfl) rfl ?_
          rw [bit8 (by omega) (by omega)]
          rcases Nat.mod_two_eq_zero_or_one (mm >>> i) with hb0 | hb0
          · rw [hb0]
            rw [hb0, Nat.add_zero] at cs
            refine br_ok X (dk rfl) rfl (show ((62 : Nat) : Int) + 6 = ((68 : Nat) : Int) from rfl) (fun c2 => absurd rfl c2) (fun _ => ?_)
            refine br_ok X (dk rfl) rfl (show ((65 : Nat) : Int) + 35 = ((100 : Nat) : Int) from rfl) (fun _ => ?_) (fun q => absurd trivial q)
            repeat refine fst1_ok X (dk rfl) rfl ?_
            refine br_ok X (dk rfl) rfl (show ((103 : Nat) : Int) + (-54) = ((49 : Nat) : Int) from rfl) (fun _ => ?_) (fun q => absurd trivial q)
            refine WS.sel (l' := [(7, vI (i + 1)), (6, .int z), (5, vI (cntN mm (i + 1))), (4, .ref F), (3, vI mm), (2, .int x2), (1, vI j1), (0, .ref o)]) [7, 6, 5, 4, 3, 2, 1, 0] (by rw [← f2, cs]; rfl) ?_
            exact ih (i + 1) (by omega) (by omega) _ rs rows _ _ rfl XX (by rw [cs]; exact h1l) h2l hFh hrs hro
          · rw [hb0]
            rw [hb0] at cs
            refine br_ok X (dk rfl) rfl (show ((62 : Nat) : Int) + 6 = ((68 : Nat) : Int) from rfl) (fun _ => ?_) (fun c2 => absurd (by decide) c2)
            repeat refine fst1_ok X (dk rfl) rfl ?_
            refine getf_ok X flX10_16 (dk rfl) M3.obj rfl ?_
            refine fst1_ok X (dk rfl) rfl ?_
            refine lda_ok X (dk rfl) (XX _ _ (E1 _ _ a2)) e1 (by omega) ?_
            refine fst1_ok X (dk rfl) rfl ?_
            refine ldr_ok X (dk rfl) (XX _ _ (E1 _ _ as3)) i5 (by rw [as2, w1.1]; decide) ?_
            have hc5 := XX _ _ (E1 _ _ i7)
            refine str_ok X (dk rfl) hFh hc5 (by rw [filR_len (by omega)]; omega) (by rw [filR_len (by omega)]; omega) ?_
            rw [show (filR rs (cntN mm 8)).set (cntN mm i) (.ref c5) = filR (rs ++ [c5]) (cntN mm 8) by rw [← h1l]; exact filR_set (by omega)]
            have XX2 : Ext h3 (hup hh F (105, filR (rs ++ [c5]) (cntN mm 8))) := XX.set hF _
            have M4 := M2.ext XX2
            have kF : ∀ (u : Nat) (w : List Nat), hh u = some (IA w) → hup hh F (105, filR (rs ++ [c5]) (cntN mm 8)) u = some (IA w) := fun u w hu => by rw [hup_ne _ _ (IA_ne hu hFh)]; exact hu
            repeat refine fst1_ok X (dk rfl) rfl ?_
            refine getf_ok X flX10_16 (dk rfl) M4.obj rfl ?_
            refine fst1_ok X (dk rfl) rfl ?_
            refine lda_ok X (dk rfl) (XX2 _ _ (E1 _ _ a2)) e1 (by omega) ?_
            refine fst1_ok X (dk rfl) rfl ?_
            refine ldr_ok X (dk rfl) (XX2 _ _ (E1 _ _ as3)) i5 (by rw [as2, w1.1]; decide) ?_
            refine alen_ok X (by decide) (dk rfl) (kF _ _ hc5) ?_
            generalize nI (z5.map vI).length = w5
            repeat refine fst1_ok X (dk rfl) rfl ?_
            refine br_ok X (dk rfl) rfl (show ((103 : Nat) : Int) + (-54) = ((49 : Nat) : Int) from rfl) (fun _ => ?_) (fun q => absurd trivial q)
            have f3 : Value.int (nI (cntN mm i) + Int32.ofInt 1) = vI (cntN mm (i + 1)) := congrArg Value.int (by rw [nI_1', nI_add, cs])
            refine WS.sel (l' := [(7, vI (i + 1)), (6, .int (z + w5)), (5, vI (cntN mm (i + 1))), (4, .ref F), (3, vI mm), (2, .int x2), (1, vI j1), (0, .ref o)]) [7, 6, 5, 4, 3, 2, 1, 0] (by rw [← f2, ← f3]; rfl) ?_
            refine ih (i + 1) (by omega) (by omega) _ (rs ++ [c5]) (rows ++ [z5]) _ _ rfl XX2 (by rw [List.length_append, cs, h1l]; rfl) (by simp [h2l]) (hup_self _ _ _) (fun k u w k1 k2 => ?_) (fun w hw => ?_)
            · rcases Nat.lt_or_ge k rs.length with q | q
              · rw [List.getElem?_append_left q] at k1
                rw [List.getElem?_append_left (by omega)] at k2
                exact kF _ _ (hrs k u w k1 k2)
              · have hk : k = rs.length := by have := (List.getElem?_eq_some_iff.mp k1).1; rw [List.length_append, List.length_singleton] at this; omega
                rw [hk, List.getElem?_concat_length] at k1
                rw [hk, ← h2l, List.getElem?_concat_length] at k2
                cases k1
                cases k2
                exact kF _ _ hc5
            · rcases List.mem_append.mp hw with q | q
              · exact hro w q
              · simp at q; rw [q]; exact t5
      iterate 7 refine fst1_ok X (dk rfl) rfl ?_
      exact loop 8 0 rfl (Nat.zero_le _) _ [] [] _ _ rfl (Ext.new hF _) rfl rfl (hup_self _ _ _) (fun k u w k1 => by simp at k1) (fun w hw => by simp at hw)
  iterate 2 refine fst1_ok X (dk rfl) rfl ?_
  refine isAnswer_ok X E mlX10_135 ⟨Nat.le_of_ble_eq_true rfl, Nat.le_of_ble_eq_true rfl⟩ ⟨Nat.le_of_ble_eq_true rfl, Nat.le_of_ble_eq_true rfl⟩ (Nat.le_of_ble_eq_true rfl) (dk rfl) (fun mid1b0 mid1h0 => ?_)
  cases mid1b0 with
  | false =>
    refine br_ok X (dk rfl) rfl (show ((5 : Nat) : Int) + 7 = ((12 : Nat) : Int) from rfl) (fun q => absurd q bI_f) (fun _ => ?_)
    refine fst1_ok X (dk rfl) rfl ?_
    refine br_ok X (dk rfl) rfl (show ((9 : Nat) : Int) + 4 = ((13 : Nat) : Int) from rfl) (fun _ => ?_) (fun q => absurd trivial q)
    exact mid1 true (fun z => by cases z)
  | true =>
    refine br_ok X (dk rfl) rfl (show ((5 : Nat) : Int) + 7 = ((12 : Nat) : Int) from rfl) (fun _ => ?_) (fun q => absurd bI_t q)
    refine fst1_ok X (dk rfl) rfl ?_
    exact mid1 false (fun _ => mid1h0 rfl)
end M39
