/-! what acts leave of the reference, exactly (printed by wip/p20/genE3.py) -/
theorem okI_of {N : Nat} {x : Int32} (hN : N ≤ 2 ^ 20) (h : inN N x) : okI N x = true := by
  obtain ⟨j, hj, rfl⟩ := h
  exact okI_t hj hN
theorem okI_in {N : Nat} {x : Int32} (hN : N ≤ 2 ^ 20) (h : okI N x = true) : inN N x := by
  unfold okI at h
  rw [Bool.and_eq_true, decide_eq_true_eq, decide_eq_true_eq] at h
  obtain ⟨j, hj, rfl⟩ := nI_of h.1
  rw [nI_clamp hj] at h
  exact ⟨j, h.2, rfl⟩
theorem swz0 {q : Prop} [Decidable q] {z : Int32} (hz : (if q then (1 : Int32) else 0) = z) (h : z = 0) : Int32.ofInt 1 = (if q then 0 else 1) := by
  subst hz
  split at h
  · exact absurd h (by decide)
  · rename_i c
    rw [if_neg c]
    decide +kernel
theorem swz1 {q : Prop} [Decidable q] {z : Int32} (hz : (if q then (1 : Int32) else 0) = z) (h : ¬ z = 0) : Int32.ofInt 0 = (if q then 0 else 1) := by
  subst hz
  split at h
  · rename_i c
    rw [if_pos c]
    decide +kernel
  · exact absurd rfl h
theorem becA_short {rows : List (List Nat)} (H : AO rows) (k : Nat) (st : ST) : becA k rows st = becS k rows st := if_neg (fun z => by
  obtain ⟨y, hy, h16⟩ := List.any_eq_true.mp z
  have := (H.2 y hy).2
  have := of_decide_eq_true h16
  omega)
theorem oft_succ {xs : List Nat} {j x yy : Nat} (h : xs[j]? = some x) : oftenN (xs.take (j + 1)) yy = if x = yy then oftenN (xs.take j) yy + 1 else oftenN (xs.take j) yy := by
  unfold oftenN
  rw [foldl_take_succ _ _ h]
theorem hd_more {y3 y4 y5 yy : List Nat} {x i : Nat} (h : ([y3, y4, y5] : List (List Nat))[i]? = some yy) : (x :: (([y3, y4, y5] : List (List Nat)).take i).flatten) ++ yy = x :: (([y3, y4, y5] : List (List Nat)).take (i + 1)).flatten := by
  rw [List.take_add_one, h, List.flatten_append]
  simp
theorem get3y {sl : List (List Nat)} {j3 j4 j5 jj : Nat} {y3 y4 y5 yy : List Nat} : ∀ {i : Nat}, ([j3, j4, j5] : List Nat)[i]? = some jj → sl[j3]? = some y3 → sl[j4]? = some y4 → sl[j5]? = some y5 → sl[jj]? = some yy → ([y3, y4, y5] : List (List Nat))[i]? = some yy
  | 0, q, h3, _, _, h => by
    cases q
    rw [h3] at h
    exact h
  | 1, q, _, h4, _, h => by
    cases q
    rw [h4] at h
    exact h
  | 2, q, _, _, h5, h => by
    cases q
    rw [h5] at h
    exact h
  | i + 3, q, _, _, _, _ => by cases q
theorem RF.refR_thr {o S A : Nat} {kn : Int32} {res : RS} {t : Nat} {y : Int32} {sl2 : List (List Nat)} {an2 : List (List (List Nat))} {a2 r2 : Int32} {h h' : AH} (M : MD h' o S A sl2 an2 a2 r2 kn (nI t)) (F : Fr o S A h h') (e : res = ((t, 0), (sl2, an2, a2, r2))) (hy : y = 0) : refR o S A kn res h (some (.int y)) h' := by
  subst e
  subst hy
  exact ⟨by show some (Value.int 0) = some (.int (if t = 0 then 0 else 0)); split <;> rfl, M, F⟩
theorem RF.refR_tr {o S A : Nat} {kn : Int32} {res res' : RS} {v : Option Value} {h h1 h' : AH} (R : refR o S A kn res h1 v h') (F : Fr o S A h h1) (e : res' = res) : refR o S A kn res' h v h' := by
  subst e
  exact ⟨R.1, R.2.1, F.trans R.2.2⟩
section E3
variable {la : Launch} {D : va_G} {cA : Nat → ClassId} {B0 pa : Nat} {o S A : Nat} {sl : List (List Nat)} {an : List (List (List Nat))} {da dr kn th : Int32}
set_option maxHeartbeats 4000000 in
theorem RF.c_name (h : AH) (M : MD h o S A sl an da dr kn th) (x1 x2 : Int32) : CT la D cA B0 pa yX10_name cX10_name 4 (some .int) (rmD 2 1 1) [.ref o, .int x1, .int x2] h (refR o S A kn (aName x1 x2 (sl, an, da, dr)) h) := by
  refine CT_of (by decide +kernel) (Nat.le_of_ble_eq_true rfl) ?_
  intro p e s m args below meth c X E hr hlk hnm
  have dk : ∀ {pc : Nat} {q : Instr × Nat}, lkd DX10_name pc = some q → decode cX10_name pc = .ok q := lkd_ok DX10_name_ok
  have mid2 : ∀ t1 t2 : Bool, (t1 = false → inN 6 x1) → (t1 = true → ¬ (inN 6 x1)) → (t2 = false → inN 8 x2) → (t2 = true → ¬ (inN 8 x2)) → WR p la e (rmD 2 1 1) s m args below meth c D cA B0 4 (refR o S A kn (aName x1 x2 (sl, an, da, dr)) h) 25 (lv_args 0 [.ref o, .int x1, .int x2]) [.int (bI t2), .int (bI t1), .ref o] h 0 0 := by
    intro t1 t2 ht1 hn1 ht2 hn2
    refine thr2_ok X E M ⟨Nat.le_of_ble_eq_true rfl, Nat.le_of_ble_eq_true rfl⟩ ⟨Nat.le_of_ble_eq_true rfl, Nat.le_of_ble_eq_true rfl⟩ (Nat.le_of_ble_eq_true rfl) (dk rfl) (fun h1 M1 F1 => ?_)
    cases hb : (t1 || t2) with
    | true =>
      have hT1 : ¬ (inN 6 x1) → aName x1 x2 (sl, an, da, dr) = ((1, 0), (sl, an, da, dr)) := (fun hn => by
          unfold aName
          by_cases q0 : okI 6 x1 = true
          rotate_left
          · exact if_neg q0
          rw [if_pos q0]
          exact absurd (okI_in (by decide) q0) hn)
      have hT2 : (inN 6 x1) → ¬ (inN 8 x2) → aName x1 x2 (sl, an, da, dr) = ((2, 0), (sl, an, da, dr)) := (fun hp hq => by
          unfold aName
          rw [if_pos (okI_of (by decide) (hp)), if_neg (by rw [okI_f hq]; decide)])
      have hE : aName x1 x2 (sl, an, da, dr) = ((thI t1 t2, 0), (sl, an, da, dr)) := by
        cases t1 with
        | true => exact hT1 (hn1 rfl)
        | false =>
          cases t2 with
          | true => exact hT2 (ht1 rfl) (hn2 rfl)
          | false => cases hb
      refine br_ok X (dk rfl) rfl (show ((28 : Nat) : Int) + 5 = ((33 : Nat) : Int) from rfl) (fun q => absurd q bI_t) (fun _ => ?_)
      refine fst1_ok X (dk rfl) rfl ?_
      exact reti_ok X hr hlk rfl (dk rfl) (refR_thr M1 F1 hE (by decide +kernel)) (Nat.zero_le _) (Nat.zero_le _)
    | false =>
      refine br_ok X (dk rfl) rfl (show ((28 : Nat) : Int) + 5 = ((33 : Nat) : Int) from rfl) (fun _ => ?_) (fun q => absurd bI_f' q)
      obtain ⟨hb1, hb2⟩ := Bool.or_eq_false_iff.mp hb
      obtain ⟨j1, hj1, rfl⟩ := ht1 hb1
      obtain ⟨j2, hj2, rfl⟩ := ht2 hb2
      have th0 : thI t1 t2 = 0 := by
        cases t1 with
        | true => cases hb
        | false =>
          cases t2 with
          | true => cases hb
          | false => rfl
      rw [th0] at M1
      obtain ⟨ss, s1, s2, s3⟩ := M1.slot
      obtain ⟨as, a1, a2, a3⟩ := M1.ans
      obtain ⟨b1, y1, e1, f1, g1, w1, n1⟩ := s3 j1 hj1
      have ly1 : (y1.map vI).length = y1.length := List.length_map _
      repeat refine fst1_ok X (dk rfl) rfl ?_
      refine getf_ok X flX10_11 (dk rfl) M1.obj rfl ?_
      refine fst1_ok X (dk rfl) rfl ?_
      refine ldr_ok X (dk rfl) s2 e1 (by omega) ?_
      refine alen_ok X (by decide) (dk rfl) g1 ?_
      repeat refine fst1_ok X (dk rfl) rfl ?_
      refine getf_ok X flX10_11 (dk rfl) M1.obj rfl ?_
      repeat refine fst1_ok X (dk rfl) rfl ?_
      refine callS_ok (av := [vI j2]) (r := [vI j1, .ref S]) X E (c_row h1 j2) lkX10_row mlX10_20 lsX10_row ⟨Nat.le_of_ble_eq_true rfl, Nat.le_of_ble_eq_true rfl⟩ ⟨Nat.le_of_ble_eq_true rfl, Nat.le_of_ble_eq_true rfl⟩ (Nat.le_of_ble_eq_true rfl) (dk rfl) ?_
      rintro v h2 ⟨q, rfl, hq, hBq, rfl⟩
      have M2 := M1.ext (Ext.new hq (IA [j2]))
      obtain ⟨vs, k1, k2, M3⟩ := M2.setS hj1 (hup_self _ _ _) ⟨TW.name hj2, by simp⟩
      refine str_ok X (dk rfl) k1 (hup_self _ _ _) (by omega) (by omega) ?_
      repeat refine fst1_ok X (dk rfl) rfl ?_
      refine done_ok X E M3 ⟨Nat.le_of_ble_eq_true rfl, Nat.le_of_ble_eq_true rfl⟩ ⟨Nat.le_of_ble_eq_true rfl, Nat.le_of_ble_eq_true rfl⟩ (Nat.le_of_ble_eq_true rfl) (dk rfl) (fun h9 M9 F9 => ?_)
      exact reti_ok X hr hlk rfl (dk rfl) (refR_ok M9 ((F1.trans ((Fr.ext (Ext.new hq _)).set (Or.inr (Or.inl rfl)) _)).trans F9) (by unfold aName; dsimp only; rw [if_pos (okI_t hj1 (by decide)), if_pos (okI_t hj2 (by decide)), xI_n (by omega), xI_n (by omega), getD_of f1]; rw [ly1]; first | done | rfl)) (Nat.le_of_ble_eq_true rfl) (Nat.le_of_ble_eq_true rfl)
  have mid1 : ∀ t1 : Bool, (t1 = false → inN 6 x1) → (t1 = true → ¬ (inN 6 x1)) → WR p la e (rmD 2 1 1) s m args below meth c D cA B0 4 (refR o S A kn (aName x1 x2 (sl, an, da, dr)) h) 13 (lv_args 0 [.ref o, .int x1, .int x2]) [.int (bI t1), .ref o] h 0 0 := by
    intro t1 ht1 hn1
    have mid2 := fun t2 => mid2 t1 t2 ht1 hn1
    iterate 1 refine fst1_ok X (dk rfl) rfl ?_
    refine isName_ok X E mlX10_99 ⟨Nat.le_of_ble_eq_true rfl, Nat.le_of_ble_eq_true rfl⟩ ⟨Nat.le_of_ble_eq_true rfl, Nat.le_of_ble_eq_true rfl⟩ (Nat.le_of_ble_eq_true rfl) (dk rfl) (fun mid2b0 mid2h0 mid2n0 => ?_)
    cases mid2b0 with
    | false =>
      refine br_ok X (dk rfl) rfl (show ((17 : Nat) : Int) + 7 = ((24 : Nat) : Int) from rfl) (fun q => absurd q bI_f) (fun _ => ?_)
      refine fst1_ok X (dk rfl) rfl ?_
      refine br_ok X (dk rfl) rfl (show ((21 : Nat) : Int) + 4 = ((25 : Nat) : Int) from rfl) (fun _ => ?_) (fun q => absurd trivial q)
      exact mid2 true (fun z => by cases z) (fun _ hh => absurd (hh) (mid2n0 rfl))
    | true =>
      refine br_ok X (dk rfl) rfl (show ((17 : Nat) : Int) + 7 = ((24 : Nat) : Int) from rfl) (fun _ => ?_) (fun q => absurd bI_t q)
      refine fst1_ok X (dk rfl) rfl ?_
      exact mid2 false (fun _ => mid2h0 rfl) (fun z => by cases z)
  iterate 2 refine fst1_ok X (dk rfl) rfl ?_
  refine isSlot_ok X E mlX10_95 ⟨Nat.le_of_ble_eq_true rfl, Nat.le_of_ble_eq_true rfl⟩ ⟨Nat.le_of_ble_eq_true rfl, Nat.le_of_ble_eq_true rfl⟩ (Nat.le_of_ble_eq_true rfl) (dk rfl) (fun mid1b0 mid1h0 mid1n0 => ?_)
  cases mid1b0 with
  | false =>
    refine br_ok X (dk rfl) rfl (show ((5 : Nat) : Int) + 7 = ((12 : Nat) : Int) from rfl) (fun q => absurd q bI_f) (fun _ => ?_)
    refine fst1_ok X (dk rfl) rfl ?_
    refine br_ok X (dk rfl) rfl (show ((9 : Nat) : Int) + 4 = ((13 : Nat) : Int) from rfl) (fun _ => ?_) (fun q => absurd trivial q)
    exact mid1 true (fun z => by cases z) (fun _ hh => absurd (hh) (mid1n0 rfl))
  | true =>
    refine br_ok X (dk rfl) rfl (show ((5 : Nat) : Int) + 7 = ((12 : Nat) : Int) from rfl) (fun _ => ?_) (fun q => absurd bI_t q)
    refine fst1_ok X (dk rfl) rfl ?_
    exact mid1 false (fun _ => mid1h0 rfl) (fun z => by cases z)
set_option maxHeartbeats 4000000 in
theorem RF.c_copy (h : AH) (M : MD h o S A sl an da dr kn th) (x1 x2 : Int32) : CT la D cA B0 pa yX10_copy cX10_copy 3 (some .int) (rmD 2 0 0) [.ref o, .int x1, .int x2] h (refR o S A kn (aCopy x1 x2 (sl, an, da, dr)) h) := by
  refine CT_of (by decide +kernel) (Nat.le_of_ble_eq_true rfl) ?_
  intro p e s m args below meth c X E hr hlk hnm
  have dk : ∀ {pc : Nat} {q : Instr × Nat}, lkd DX10_copy pc = some q → decode cX10_copy pc = .ok q := lkd_ok DX10_copy_ok
  have mid1 : ∀ t1 : Bool, (t1 = false → inN 6 x1 ∧ inN 6 x2) → (t1 = true → ¬ (inN 6 x1 ∧ inN 6 x2)) → WR p la e (rmD 2 0 0) s m args below meth c D cA B0 3 (refR o S A kn (aCopy x1 x2 (sl, an, da, dr)) h) 20 (lv_args 0 [.ref o, .int x1, .int x2]) [.int (bI t1), .ref o] h 0 0 := by
    intro t1 ht1 hn1
    refine thr1_ok X E M ⟨Nat.le_of_ble_eq_true rfl, Nat.le_of_ble_eq_true rfl⟩ ⟨Nat.le_of_ble_eq_true rfl, Nat.le_of_ble_eq_true rfl⟩ (Nat.le_of_ble_eq_true rfl) (dk rfl) (fun h1 M1 F1 => ?_)
    cases hb : t1 with
    | true =>
      have hT1 : ¬ (inN 6 x1 ∧ inN 6 x2) → aCopy x1 x2 (sl, an, da, dr) = ((1, 0), (sl, an, da, dr)) := (fun hn => by
          unfold aCopy
          by_cases q0 : okI 6 x1 = true
          rotate_left
          · exact if_neg q0
          rw [if_pos q0]
          by_cases q1 : okI 6 x2 = true
          rotate_left
          · exact if_neg q1
          rw [if_pos q1]
          exact absurd ⟨okI_in (by decide) q0, okI_in (by decide) q1⟩ hn)
      have hE : aCopy x1 x2 (sl, an, da, dr) = ((thI t1 false, 0), (sl, an, da, dr)) := by
        rw [hb]
        exact hT1 (hn1 hb)
      refine br_ok X (dk rfl) rfl (show ((23 : Nat) : Int) + 7 = ((30 : Nat) : Int) from rfl) (fun q => absurd q bI_t) (fun _ => ?_)
      refine fst1_ok X (dk rfl) rfl ?_
      refine br_ok X (dk rfl) rfl (show ((27 : Nat) : Int) + 14 = ((41 : Nat) : Int) from rfl) (fun _ => ?_) (fun q => absurd trivial q)
      exact reti_ok X hr hlk rfl (dk rfl) (refR_thr M1 F1 hE (by decide +kernel)) (Nat.zero_le _) (Nat.zero_le _)
    | false =>
      refine br_ok X (dk rfl) rfl (show ((23 : Nat) : Int) + 7 = ((30 : Nat) : Int) from rfl) (fun _ => ?_) (fun q => absurd bI_f' q)
      obtain ⟨⟨j1, hj1, rfl⟩, ⟨j2, hj2, rfl⟩⟩ := ht1 hb
      have M1 : MD h1 o S A sl an da dr kn (nI 0) := by
        rw [hb] at M1
        exact M1
      obtain ⟨ss, s1, s2, s3⟩ := M1.slot
      obtain ⟨as, a1, a2, a3⟩ := M1.ans
      obtain ⟨b1, y1, e1, f1, g1, w1, n1⟩ := s3 j1 hj1
      have ly1 : (y1.map vI).length = y1.length := List.length_map _
      obtain ⟨b2, y2, e2, f2, g2, w2, n2⟩ := s3 j2 hj2
      have ly2 : (y2.map vI).length = y2.length := List.length_map _
      repeat refine fst1_ok X (dk rfl) rfl ?_
      refine getf_ok X flX10_11 (dk rfl) M1.obj rfl ?_
      refine fst1_ok X (dk rfl) rfl ?_
      refine ldr_ok X (dk rfl) s2 e1 (by omega) ?_
      refine callV_ok (ci := 12) (T := TX10) (N := 6) (av := [vI j2, .ref b1]) (r := []) X E (c_give h1 M1 hj2 g1 w1 (by omega)) lkX10_give mlX10_106 lmX10_give lpX10_give ⟨Nat.le_of_ble_eq_true rfl, Nat.le_of_ble_eq_true rfl⟩ ⟨Nat.le_of_ble_eq_true rfl, Nat.le_of_ble_eq_true rfl⟩ rfl M1.obj (Nat.le_of_ble_eq_true rfl) (dk rfl) ?_
      rintro v h9 ⟨rfl, I9⟩
      exact reti_ok X hr hlk rfl (dk rfl) (refR_tr ⟨rfl, I9⟩ (F1) (by unfold aCopy; dsimp only; rw [if_pos (okI_t hj1 (by decide)), if_pos (okI_t hj2 (by decide)), xI_n (by omega), xI_n (by omega), getD_of f1]; first | done | rfl)) (Nat.le_of_ble_eq_true rfl) (Nat.le_of_ble_eq_true rfl)
  iterate 2 refine fst1_ok X (dk rfl) rfl ?_
  refine isSlot_ok X E mlX10_95 ⟨Nat.le_of_ble_eq_true rfl, Nat.le_of_ble_eq_true rfl⟩ ⟨Nat.le_of_ble_eq_true rfl, Nat.le_of_ble_eq_true rfl⟩ (Nat.le_of_ble_eq_true rfl) (dk rfl) (fun mid1b0 mid1h0 mid1n0 => ?_)
  cases mid1b0 with
  | false =>
    refine br_ok X (dk rfl) rfl (show ((5 : Nat) : Int) + 10 = ((15 : Nat) : Int) from rfl) (fun _ => ?_) (fun q => absurd bI_f' q)
    refine fst1_ok X (dk rfl) rfl ?_
    refine br_ok X (dk rfl) rfl (show ((16 : Nat) : Int) + 4 = ((20 : Nat) : Int) from rfl) (fun _ => ?_) (fun q => absurd trivial q)
    exact mid1 true (fun z => by cases z) (fun _ hh => absurd (hh.1) (mid1n0 rfl))
  | true =>
    refine br_ok X (dk rfl) rfl (show ((5 : Nat) : Int) + 10 = ((15 : Nat) : Int) from rfl) (fun q => absurd q bI_t) (fun _ => ?_)
    iterate 1 refine fst1_ok X (dk rfl) rfl ?_
    refine isSlot_ok X E mlX10_95 ⟨Nat.le_of_ble_eq_true rfl, Nat.le_of_ble_eq_true rfl⟩ ⟨Nat.le_of_ble_eq_true rfl, Nat.le_of_ble_eq_true rfl⟩ (Nat.le_of_ble_eq_true rfl) (dk rfl) (fun mid1b1 mid1h1 mid1n1 => ?_)
    cases mid1b1 with
    | false =>
      refine br_ok X (dk rfl) rfl (show ((12 : Nat) : Int) + 7 = ((19 : Nat) : Int) from rfl) (fun q => absurd q bI_f) (fun _ => ?_)
      refine fst1_ok X (dk rfl) rfl ?_
      refine br_ok X (dk rfl) rfl (show ((16 : Nat) : Int) + 4 = ((20 : Nat) : Int) from rfl) (fun _ => ?_) (fun q => absurd trivial q)
      exact mid1 true (fun z => by cases z) (fun _ hh => absurd (hh.2) (mid1n1 rfl))
    | true =>
      refine br_ok X (dk rfl) rfl (show ((12 : Nat) : Int) + 7 = ((19 : Nat) : Int) from rfl) (fun _ => ?_) (fun q => absurd bI_t q)
      refine fst1_ok X (dk rfl) rfl ?_
      exact mid1 false (fun _ => ⟨mid1h0 rfl, mid1h1 rfl⟩) (fun z => by cases z)
set_option maxHeartbeats 4000000 in
theorem RF.c_swap (h : AH) (M : MD h o S A sl an da dr kn th) (x1 x2 : Int32) : CT la D cA B0 pa yX10_swap cX10_swap 5 (some .int) (rmD 3 0 0) [.ref o, .int x1, .int x2] h (refR o S A kn (aSwap x1 x2 (sl, an, da, dr)) h) := by
  refine CT_of (by decide +kernel) (Nat.le_of_ble_eq_true rfl) ?_
  intro p e s m args below meth c X E hr hlk hnm
  have dk : ∀ {pc : Nat} {q : Instr × Nat}, lkd DX10_swap pc = some q → decode cX10_swap pc = .ok q := lkd_ok DX10_swap_ok
  have mid1 : ∀ t1 : Bool, (t1 = false → inN 6 x1 ∧ inN 6 x2) → (t1 = true → ¬ (inN 6 x1 ∧ inN 6 x2)) → WR p la e (rmD 3 0 0) s m args below meth c D cA B0 5 (refR o S A kn (aSwap x1 x2 (sl, an, da, dr)) h) 20 (lv_args 0 [.ref o, .int x1, .int x2]) [.int (bI t1), .ref o] h 0 0 := by
    intro t1 ht1 hn1
    refine thr1_ok X E M ⟨Nat.le_of_ble_eq_true rfl, Nat.le_of_ble_eq_true rfl⟩ ⟨Nat.le_of_ble_eq_true rfl, Nat.le_of_ble_eq_true rfl⟩ (Nat.le_of_ble_eq_true rfl) (dk rfl) (fun h1 M1 F1 => ?_)
    cases hb : t1 with
    | true =>
      have hT1 : ¬ (inN 6 x1 ∧ inN 6 x2) → aSwap x1 x2 (sl, an, da, dr) = ((1, 0), (sl, an, da, dr)) := (fun hn => by
          unfold aSwap
          by_cases q0 : okI 6 x1 = true
          rotate_left
          · exact if_neg q0
          rw [if_pos q0]
          by_cases q1 : okI 6 x2 = true
          rotate_left
          · exact if_neg q1
          rw [if_pos q1]
          exact absurd ⟨okI_in (by decide) q0, okI_in (by decide) q1⟩ hn)
      have hE : aSwap x1 x2 (sl, an, da, dr) = ((thI t1 false, 0), (sl, an, da, dr)) := by
        rw [hb]
        exact hT1 (hn1 hb)
      refine br_ok X (dk rfl) rfl (show ((23 : Nat) : Int) + 5 = ((28 : Nat) : Int) from rfl) (fun q => absurd q bI_t) (fun _ => ?_)
      refine fst1_ok X (dk rfl) rfl ?_
      exact reti_ok X hr hlk rfl (dk rfl) (refR_thr M1 F1 hE (by decide +kernel)) (Nat.zero_le _) (Nat.zero_le _)
    | false =>
      refine br_ok X (dk rfl) rfl (show ((23 : Nat) : Int) + 5 = ((28 : Nat) : Int) from rfl) (fun _ => ?_) (fun q => absurd bI_f' q)
      obtain ⟨⟨j1, hj1, rfl⟩, ⟨j2, hj2, rfl⟩⟩ := ht1 hb
      have M1 : MD h1 o S A sl an da dr kn (nI 0) := by
        rw [hb] at M1
        exact M1
      obtain ⟨ss, s1, s2, s3⟩ := M1.slot
      obtain ⟨as, a1, a2, a3⟩ := M1.ans
      obtain ⟨b1, y1, e1, f1, g1, w1, n1⟩ := s3 j1 hj1
      have ly1 : (y1.map vI).length = y1.length := List.length_map _
      obtain ⟨b2, y2, e2, f2, g2, w2, n2⟩ := s3 j2 hj2
      have ly2 : (y2.map vI).length = y2.length := List.length_map _
      repeat refine fst1_ok X (dk rfl) rfl ?_
      refine getf_ok X flX10_11 (dk rfl) M1.obj rfl ?_
      refine fst1_ok X (dk rfl) rfl ?_
      refine ldr_ok X (dk rfl) s2 e1 (by omega) ?_
      repeat refine fst1_ok X (dk rfl) rfl ?_
      refine getf_ok X flX10_11 (dk rfl) M1.obj rfl ?_
      refine fst1_ok X (dk rfl) rfl ?_
      refine ldr_ok X (dk rfl) s2 e2 (by omega) ?_
      refine callS_ok (av := [.ref b1, .ref b2]) (r := []) X E (c_same h1 g1 g2 (by omega) (by omega) w1.lt w2.lt) lkX10_same mlX10_54 lsX10_same ⟨Nat.le_of_ble_eq_true rfl, Nat.le_of_ble_eq_true rfl⟩ ⟨Nat.le_of_ble_eq_true rfl, Nat.le_of_ble_eq_true rfl⟩ (Nat.le_of_ble_eq_true rfl) (dk rfl) ?_
      rintro v h2 ⟨rfl, rfl⟩
      generalize hz : (if y1 = y2 then (1 : Int32) else 0) = z
      repeat refine fst1_ok X (dk rfl) rfl ?_
      refine getf_ok X flX10_11 (dk rfl) M1.obj rfl ?_
      repeat refine fst1_ok X (dk rfl) rfl ?_
      refine getf_ok X flX10_11 (dk rfl) M1.obj rfl ?_
      refine fst1_ok X (dk rfl) rfl ?_
      refine ldr_ok X (dk rfl) s2 e2 (by omega) ?_
      obtain ⟨vs, k1, k2, M3⟩ := M1.setS hj1 g2 ⟨w2, n2⟩
      refine str_ok X (dk rfl) k1 g2 (by omega) (by omega) ?_
      repeat refine fst1_ok X (dk rfl) rfl ?_
      refine getf_ok X flX10_11 (dk rfl) M3.obj rfl ?_
      repeat refine fst1_ok X (dk rfl) rfl ?_
      have g1b : hup h2 S (105, vs.set j1 (.ref b2)) b1 = some (IA y1) := by rw [hup_ne _ _ (IA_ne g1 k1)]; exact g1
      obtain ⟨vs2, k3, k4, M4⟩ := M3.setS hj2 g1b ⟨w1, n1⟩
      refine str_ok X (dk rfl) k3 g1b (by omega) (by omega) ?_
      repeat refine fst1_ok X (dk rfl) rfl ?_
      have fin9 : ∀ (t : Int32) (l : List (Nat × Value)), t = (if y1 = y2 then 0 else 1) → WR p la e (rmD 3 0 0) s m args below meth c D cA B0 5 (refR o S A kn (aSwap (nI j1) (nI j2) (sl, an, da, dr)) h) 77 l [.int t, .ref o] (hup (hup h2 S (105, vs.set j1 (.ref b2))) S (105, vs2.set j2 (.ref b1))) 0 0 := by
        intro t l et
        refine done_ok X E M4 ⟨Nat.le_of_ble_eq_true rfl, Nat.le_of_ble_eq_true rfl⟩ ⟨Nat.le_of_ble_eq_true rfl, Nat.le_of_ble_eq_true rfl⟩ (Nat.le_of_ble_eq_true rfl) (dk rfl) (fun h9 M9 F9 => ?_)
        exact reti_ok X hr hlk rfl (dk rfl) (refR_ok M9 (((F1.set (Or.inr (Or.inl rfl)) _).set (Or.inr (Or.inl rfl)) _).trans F9) (by unfold aSwap; dsimp only; rw [if_pos (okI_t hj1 (by decide)), if_pos (okI_t hj2 (by decide)), xI_n (by omega), xI_n (by omega), getD_of f1, getD_of f2]; rw [et]; first | done | rfl)) (Nat.le_of_ble_eq_true rfl) (Nat.le_of_ble_eq_true rfl)
      by_cases hz0 : z = 0
      · refine br_ok X (dk rfl) rfl (show ((69 : Nat) : Int) + 7 = ((76 : Nat) : Int) from rfl) (fun _ => ?_) (fun q => absurd hz0 q)
        refine fst1_ok X (dk rfl) rfl ?_
        exact fin9 _ _ (swz0 hz hz0)
      · refine br_ok X (dk rfl) rfl (show ((69 : Nat) : Int) + 7 = ((76 : Nat) : Int) from rfl) (fun q => absurd q hz0) (fun _ => ?_)
        refine fst1_ok X (dk rfl) rfl ?_
        refine br_ok X (dk rfl) rfl (show ((73 : Nat) : Int) + 4 = ((77 : Nat) : Int) from rfl) (fun _ => ?_) (fun q => absurd trivial q)
        exact fin9 _ _ (swz1 hz hz0)
  iterate 2 refine fst1_ok X (dk rfl) rfl ?_
  refine isSlot_ok X E mlX10_95 ⟨Nat.le_of_ble_eq_true rfl, Nat.le_of_ble_eq_true rfl⟩ ⟨Nat.le_of_ble_eq_true rfl, Nat.le_of_ble_eq_true rfl⟩ (Nat.le_of_ble_eq_true rfl) (dk rfl) (fun mid1b0 mid1h0 mid1n0 => ?_)
  cases mid1b0 with
  | false =>
    refine br_ok X (dk rfl) rfl (show ((5 : Nat) : Int) + 10 = ((15 : Nat) : Int) from rfl) (fun _ => ?_) (fun q => absurd bI_f' q)
    refine fst1_ok X (dk rfl) rfl ?_
    refine br_ok X (dk rfl) rfl (show ((16 : Nat) : Int) + 4 = ((20 : Nat) : Int) from rfl) (fun _ => ?_) (fun q => absurd trivial q)
    exact mid1 true (fun z => by cases z) (fun _ hh => absurd (hh.1) (mid1n0 rfl))
  | true =>
    refine br_ok X (dk rfl) rfl (show ((5 : Nat) : Int) + 10 = ((15 : Nat) : Int) from rfl) (fun q => absurd q bI_t) (fun _ => ?_)
    iterate 1 refine fst1_ok X (dk rfl) rfl ?_
    refine isSlot_ok X E mlX10_95 ⟨Nat.le_of_ble_eq_true rfl, Nat.le_of_ble_eq_true rfl⟩ ⟨Nat.le_of_ble_eq_true rfl, Nat.le_of_ble_eq_true rfl⟩ (Nat.le_of_ble_eq_true rfl) (dk rfl) (fun mid1b1 mid1h1 mid1n1 => ?_)
    cases mid1b1 with
    | false =>
      refine br_ok X (dk rfl) rfl (show ((12 : Nat) : Int) + 7 = ((19 : Nat) : Int) from rfl) (fun q => absurd q bI_f) (fun _ => ?_)
      refine fst1_ok X (dk rfl) rfl ?_
      refine br_ok X (dk rfl) rfl (show ((16 : Nat) : Int) + 4 = ((20 : Nat) : Int) from rfl) (fun _ => ?_) (fun q => absurd trivial q)
      exact mid1 true (fun z => by cases z) (fun _ hh => absurd (hh.2) (mid1n1 rfl))
    | true =>
      refine br_ok X (dk rfl) rfl (show ((12 : Nat) : Int) + 7 = ((19 : Nat) : Int) from rfl) (fun _ => ?_) (fun q => absurd bI_t q)
      refine fst1_ok X (dk rfl) rfl ?_
      exact mid1 false (fun _ => ⟨mid1h0 rfl, mid1h1 rfl⟩) (fun z => by cases z)
set_option maxHeartbeats 4000000 in
theorem RF.c_part (h : AH) (M : MD h o S A sl an da dr kn th) (x1 x2 x3 : Int32) : CT la D cA B0 pa yX10_part cX10_part 4 (some .int) (rmD 3 1 16) [.ref o, .int x1, .int x2, .int x3] h (refR o S A kn (aPart x1 x2 x3 (sl, an, da, dr)) h) := by
  refine CT_of (by decide +kernel) (Nat.le_of_ble_eq_true rfl) ?_
  intro p e s m args below meth c X E hr hlk hnm
  have dk : ∀ {pc : Nat} {q : Instr × Nat}, lkd DX10_part pc = some q → decode cX10_part pc = .ok q := lkd_ok DX10_part_ok
  have mid1 : ∀ t1 : Bool, (t1 = false → inN 6 x1 ∧ inN 6 x3) → (t1 = true → ¬ (inN 6 x1 ∧ inN 6 x3)) → WR p la e (rmD 3 1 16) s m args below meth c D cA B0 4 (refR o S A kn (aPart x1 x2 x3 (sl, an, da, dr)) h) 20 (lv_args 0 [.ref o, .int x1, .int x2, .int x3]) [.int (bI t1), .ref o] h 0 0 := by
    intro t1 ht1 hn1
    refine thr1_ok X E M ⟨Nat.le_of_ble_eq_true rfl, Nat.le_of_ble_eq_true rfl⟩ ⟨Nat.le_of_ble_eq_true rfl, Nat.le_of_ble_eq_true rfl⟩ (Nat.le_of_ble_eq_true rfl) (dk rfl) (fun h1 M1 F1 => ?_)
    cases hb : t1 with
    | true =>
      have hT1 : ¬ (inN 6 x1 ∧ inN 6 x3) → aPart x1 x2 x3 (sl, an, da, dr) = ((1, 0), (sl, an, da, dr)) := (fun hn => by
          unfold aPart
          by_cases q0 : okI 6 x1 = true
          rotate_left
          · exact if_neg q0
          rw [if_pos q0]
          by_cases q1 : okI 6 x3 = true
          rotate_left
          · exact if_neg q1
          rw [if_pos q1]
          exact absurd ⟨okI_in (by decide) q0, okI_in (by decide) q1⟩ hn)
      have hE : aPart x1 x2 x3 (sl, an, da, dr) = ((thI t1 false, 0), (sl, an, da, dr)) := by
        rw [hb]
        exact hT1 (hn1 hb)
      refine br_ok X (dk rfl) rfl (show ((23 : Nat) : Int) + 5 = ((28 : Nat) : Int) from rfl) (fun q => absurd q bI_t) (fun _ => ?_)
      refine fst1_ok X (dk rfl) rfl ?_
      exact reti_ok X hr hlk rfl (dk rfl) (refR_thr M1 F1 hE (by decide +kernel)) (Nat.zero_le _) (Nat.zero_le _)
    | false =>
      refine br_ok X (dk rfl) rfl (show ((23 : Nat) : Int) + 5 = ((28 : Nat) : Int) from rfl) (fun _ => ?_) (fun q => absurd bI_f' q)
      obtain ⟨⟨j1, hj1, rfl⟩, ⟨j3, hj3, rfl⟩⟩ := ht1 hb
      have M1 : MD h1 o S A sl an da dr kn (nI 0) := by
        rw [hb] at M1
        exact M1
      obtain ⟨ss, s1, s2, s3⟩ := M1.slot
      obtain ⟨as, a1, a2, a3⟩ := M1.ans
      obtain ⟨b1, y1, e1, f1, g1, w1, n1⟩ := s3 j1 hj1
      have ly1 : (y1.map vI).length = y1.length := List.length_map _
      obtain ⟨b3, y3, e3, f3, g3, w3, n3⟩ := s3 j3 hj3
      have ly3 : (y3.map vI).length = y3.length := List.length_map _
      repeat refine fst1_ok X (dk rfl) rfl ?_
      refine callV_ok (ci := 12) (T := TX10) (N := 6) (av := [vI j1, .int x2]) (r := []) X E (c_isPlace h1 M1 hj1 x2) lkX10_isPlace mlX10_113 lmX10_isPlace lpX10_isPlace ⟨Nat.le_of_ble_eq_true rfl, Nat.le_of_ble_eq_true rfl⟩ ⟨Nat.le_of_ble_eq_true rfl, Nat.le_of_ble_eq_true rfl⟩ rfl M1.obj (Nat.le_of_ble_eq_true rfl) (dk rfl) ?_
      rintro v h2 ⟨⟨bp, rfl, hbp, hnp⟩, rfl⟩
      cases bp with
      | false =>
        refine br_ok X (dk rfl) rfl (show ((34 : Nat) : Int) + 21 = ((55 : Nat) : Int) from rfl) (fun _ => ?_) (fun q => absurd bI_f' q)
        repeat refine fst1_ok X (dk rfl) rfl ?_
        refine no_ok X E M1 ⟨Nat.le_of_ble_eq_true rfl, Nat.le_of_ble_eq_true rfl⟩ ⟨Nat.le_of_ble_eq_true rfl, Nat.le_of_ble_eq_true rfl⟩ (Nat.le_of_ble_eq_true rfl) (dk rfl) (fun h9 M9 F9 => ?_)
        exact reti_ok X hr hlk rfl (dk rfl) (refR_ok M9 ((F1).trans F9) (by unfold aPart; dsimp only; rw [if_pos (okI_t hj1 (by decide)), if_pos (okI_t hj3 (by decide)), xI_n (by omega), getD_of f1]; rw [if_neg (by rw [okI_f (hnp rfl y1 f1)]; decide)]; first | done | rfl)) (Nat.le_of_ble_eq_true rfl) (Nat.le_of_ble_eq_true rfl)
      | true =>
        refine br_ok X (dk rfl) rfl (show ((34 : Nat) : Int) + 21 = ((55 : Nat) : Int) from rfl) (fun q => absurd q bI_t) (fun _ => ?_)
        obtain ⟨j2, hj2, rfl⟩ := hbp rfl y1 f1
        obtain ⟨k0, t1, t2, t3, t4⟩ := w1.at hj2
        have et : tl y1 j2 = k0 := by unfold tl; rw [t1]; rfl
        repeat refine fst1_ok X (dk rfl) rfl ?_
        refine getf_ok X flX10_11 (dk rfl) M1.obj rfl ?_
        refine fst1_ok X (dk rfl) rfl ?_
        refine ldr_ok X (dk rfl) s2 e1 (by omega) ?_
        repeat refine fst1_ok X (dk rfl) rfl ?_
        refine callS_ok (av := [.ref b1, vI j2]) (r := [vI j3, .ref o]) X E (c_at h2 g1 w1.lt (by omega) t1) lkX10_at mlX10_74 lsX10_at ⟨Nat.le_of_ble_eq_true rfl, Nat.le_of_ble_eq_true rfl⟩ ⟨Nat.le_of_ble_eq_true rfl, by show 0 + k0 ≤ 16; omega⟩ (Nat.le_of_ble_eq_true rfl) (dk rfl) ?_
        rintro v h3 ⟨q, rfl, hq, hBq, rfl⟩
        have M2 := M1.ext (Ext.new hq (IA ((y1.drop j2).take k0)))
        refine callV_ok (ci := 12) (T := TX10) (N := 6) (av := [vI j3, .ref q]) (r := []) X E (c_give _ M2 hj3 (hup_self _ _ _) t4 (by rw [List.length_take, List.length_drop]; omega)) lkX10_give mlX10_106 lmX10_give lpX10_give ⟨Nat.le_of_ble_eq_true rfl, Nat.le_of_ble_eq_true rfl⟩ ⟨Nat.le_of_ble_eq_true rfl, by show 0 + k0 + 0 ≤ 16; omega⟩ rfl M2.obj (Nat.le_of_ble_eq_true rfl) (dk rfl) ?_
        rintro v h9 ⟨rfl, I9⟩
        refine br_ok X (dk rfl) rfl (show ((52 : Nat) : Int) + 7 = ((59 : Nat) : Int) from rfl) (fun _ => ?_) (fun q => absurd trivial q)
        exact reti_ok X hr hlk rfl (dk rfl) (refR_tr ⟨rfl, I9⟩ (F1.trans (Fr.ext (Ext.new hq _))) (by unfold aPart; dsimp only; rw [if_pos (okI_t hj1 (by decide)), if_pos (okI_t hj3 (by decide)), xI_n (by omega), getD_of f1, if_pos (okI_t hj2 (by omega)), xI_n (by omega), xI_n (by omega)]; unfold sub'; rw [et])) (Nat.le_of_ble_eq_true rfl) (by show 0 + k0 + 0 ≤ 16; omega)
  iterate 2 refine fst1_ok X (dk rfl) rfl ?_
  refine isSlot_ok X E mlX10_95 ⟨Nat.le_of_ble_eq_true rfl, Nat.le_of_ble_eq_true rfl⟩ ⟨Nat.le_of_ble_eq_true rfl, Nat.le_of_ble_eq_true rfl⟩ (Nat.le_of_ble_eq_true rfl) (dk rfl) (fun mid1b0 mid1h0 mid1n0 => ?_)
  cases mid1b0 with
  | false =>
    refine br_ok X (dk rfl) rfl (show ((5 : Nat) : Int) + 10 = ((15 : Nat) : Int) from rfl) (fun _ => ?_) (fun q => absurd bI_f' q)
    refine fst1_ok X (dk rfl) rfl ?_
    refine br_ok X (dk rfl) rfl (show ((16 : Nat) : Int) + 4 = ((20 : Nat) : Int) from rfl) (fun _ => ?_) (fun q => absurd trivial q)
    exact mid1 true (fun z => by cases z) (fun _ hh => absurd (hh.1) (mid1n0 rfl))
  | true =>
    refine br_ok X (dk rfl) rfl (show ((5 : Nat) : Int) + 10 = ((15 : Nat) : Int) from rfl) (fun q => absurd q bI_t) (fun _ => ?_)
    iterate 1 refine fst1_ok X (dk rfl) rfl ?_
    refine isSlot_ok X E mlX10_95 ⟨Nat.le_of_ble_eq_true rfl, Nat.le_of_ble_eq_true rfl⟩ ⟨Nat.le_of_ble_eq_true rfl, Nat.le_of_ble_eq_true rfl⟩ (Nat.le_of_ble_eq_true rfl) (dk rfl) (fun mid1b1 mid1h1 mid1n1 => ?_)
    cases mid1b1 with
    | false =>
      refine br_ok X (dk rfl) rfl (show ((12 : Nat) : Int) + 7 = ((19 : Nat) : Int) from rfl) (fun q => absurd q bI_f) (fun _ => ?_)
      refine fst1_ok X (dk rfl) rfl ?_
      refine br_ok X (dk rfl) rfl (show ((16 : Nat) : Int) + 4 = ((20 : Nat) : Int) from rfl) (fun _ => ?_) (fun q => absurd trivial q)
      exact mid1 true (fun z => by cases z) (fun _ hh => absurd (hh.2) (mid1n1 rfl))
    | true =>
      refine br_ok X (dk rfl) rfl (show ((12 : Nat) : Int) + 7 = ((19 : Nat) : Int) from rfl) (fun _ => ?_) (fun q => absurd bI_t q)
      refine fst1_ok X (dk rfl) rfl ?_
      exact mid1 false (fun _ => ⟨mid1h0 rfl, mid1h1 rfl⟩) (fun z => by cases z)
set_option maxHeartbeats 4000000 in
theorem RF.c_graft (h : AH) (M : MD h o S A sl an da dr kn th) (x1 x2 x3 : Int32) : CT la D cA B0 pa yX10_graft cX10_graft 5 (some .int) (rmD 3 4 128) [.ref o, .int x1, .int x2, .int x3] h (refR o S A kn (aGraft x1 x2 x3 (sl, an, da, dr)) h) := by
  refine CT_of (by decide +kernel) (Nat.le_of_ble_eq_true rfl) ?_
  intro p e s m args below meth c X E hr hlk hnm
  have dk : ∀ {pc : Nat} {q : Instr × Nat}, lkd DX10_graft pc = some q → decode cX10_graft pc = .ok q := lkd_ok DX10_graft_ok
  have mid1 : ∀ t1 : Bool, (t1 = false → inN 6 x1 ∧ inN 6 x3) → (t1 = true → ¬ (inN 6 x1 ∧ inN 6 x3)) → WR p la e (rmD 3 4 128) s m args below meth c D cA B0 5 (refR o S A kn (aGraft x1 x2 x3 (sl, an, da, dr)) h) 20 (lv_args 0 [.ref o, .int x1, .int x2, .int x3]) [.int (bI t1), .ref o] h 0 0 := by
    intro t1 ht1 hn1
    refine thr1_ok X E M ⟨Nat.le_of_ble_eq_true rfl, Nat.le_of_ble_eq_true rfl⟩ ⟨Nat.le_of_ble_eq_true rfl, Nat.le_of_ble_eq_true rfl⟩ (Nat.le_of_ble_eq_true rfl) (dk rfl) (fun h1 M1 F1 => ?_)
    cases hb : t1 with
    | true =>
      have hT1 : ¬ (inN 6 x1 ∧ inN 6 x3) → aGraft x1 x2 x3 (sl, an, da, dr) = ((1, 0), (sl, an, da, dr)) := (fun hn => by
          unfold aGraft
          by_cases q0 : okI 6 x1 = true
          rotate_left
          · exact if_neg q0
          rw [if_pos q0]
          by_cases q1 : okI 6 x3 = true
          rotate_left
          · exact if_neg q1
          rw [if_pos q1]
          exact absurd ⟨okI_in (by decide) q0, okI_in (by decide) q1⟩ hn)
      have hE : aGraft x1 x2 x3 (sl, an, da, dr) = ((thI t1 false, 0), (sl, an, da, dr)) := by
        rw [hb]
        exact hT1 (hn1 hb)
      refine br_ok X (dk rfl) rfl (show ((23 : Nat) : Int) + 5 = ((28 : Nat) : Int) from rfl) (fun q => absurd q bI_t) (fun _ => ?_)
      refine fst1_ok X (dk rfl) rfl ?_
      exact reti_ok X hr hlk rfl (dk rfl) (refR_thr M1 F1 hE (by decide +kernel)) (Nat.zero_le _) (Nat.zero_le _)
    | false =>
      refine br_ok X (dk rfl) rfl (show ((23 : Nat) : Int) + 5 = ((28 : Nat) : Int) from rfl) (fun _ => ?_) (fun q => absurd bI_f' q)
      obtain ⟨⟨j1, hj1, rfl⟩, ⟨j3, hj3, rfl⟩⟩ := ht1 hb
      have M1 : MD h1 o S A sl an da dr kn (nI 0) := by
        rw [hb] at M1
        exact M1
      obtain ⟨ss, s1, s2, s3⟩ := M1.slot
      obtain ⟨as, a1, a2, a3⟩ := M1.ans
      obtain ⟨b1, y1, e1, f1, g1, w1, n1⟩ := s3 j1 hj1
      have ly1 : (y1.map vI).length = y1.length := List.length_map _
      obtain ⟨b3, y3, e3, f3, g3, w3, n3⟩ := s3 j3 hj3
      have ly3 : (y3.map vI).length = y3.length := List.length_map _
      repeat refine fst1_ok X (dk rfl) rfl ?_
      refine callV_ok (ci := 12) (T := TX10) (N := 6) (av := [vI j1, .int x2]) (r := []) X E (c_isPlace h1 M1 hj1 x2) lkX10_isPlace mlX10_113 lmX10_isPlace lpX10_isPlace ⟨Nat.le_of_ble_eq_true rfl, Nat.le_of_ble_eq_true rfl⟩ ⟨Nat.le_of_ble_eq_true rfl, Nat.le_of_ble_eq_true rfl⟩ rfl M1.obj (Nat.le_of_ble_eq_true rfl) (dk rfl) ?_
      rintro v h2 ⟨⟨bp, rfl, hbp, hnp⟩, rfl⟩
      cases bp with
      | false =>
        refine br_ok X (dk rfl) rfl (show ((34 : Nat) : Int) + 8 = ((42 : Nat) : Int) from rfl) (fun q => absurd q bI_f) (fun _ => ?_)
        repeat refine fst1_ok X (dk rfl) rfl ?_
        refine no_ok X E M1 ⟨Nat.le_of_ble_eq_true rfl, Nat.le_of_ble_eq_true rfl⟩ ⟨Nat.le_of_ble_eq_true rfl, Nat.le_of_ble_eq_true rfl⟩ (Nat.le_of_ble_eq_true rfl) (dk rfl) (fun h9 M9 F9 => ?_)
        exact reti_ok X hr hlk rfl (dk rfl) (refR_ok M9 ((F1).trans F9) (by unfold aGraft; dsimp only; rw [if_pos (okI_t hj1 (by decide)), if_pos (okI_t hj3 (by decide)), xI_n (by omega), getD_of f1]; rw [if_neg (by rw [okI_f (hnp rfl y1 f1)]; decide)]; first | done | rfl)) (Nat.le_of_ble_eq_true rfl) (Nat.le_of_ble_eq_true rfl)
      | true =>
        refine br_ok X (dk rfl) rfl (show ((34 : Nat) : Int) + 8 = ((42 : Nat) : Int) from rfl) (fun _ => ?_) (fun q => absurd bI_t q)
        obtain ⟨j2, hj2, rfl⟩ := hbp rfl y1 f1
        obtain ⟨k0, t1, t2, t3, t4⟩ := w1.at hj2
        have et : tl y1 j2 = k0 := by unfold tl; rw [t1]; rfl
        repeat refine fst1_ok X (dk rfl) rfl ?_
        refine getf_ok X flX10_11 (dk rfl) M1.obj rfl ?_
        refine fst1_ok X (dk rfl) rfl ?_
        refine ldr_ok X (dk rfl) s2 e1 (by omega) ?_
        repeat refine fst1_ok X (dk rfl) rfl ?_
        refine callS_ok (av := [.ref b1, vI 0, vI j2]) (r := [vI j1, .ref o]) X E (c_piece h2 (f := 0) (t := j2) g1 (Nat.zero_le _) (by omega) (by omega) rfl) lkX10_piece mlX10_40 lsX10_piece ⟨Nat.le_of_ble_eq_true rfl, Nat.le_of_ble_eq_true rfl⟩ ⟨Nat.le_of_ble_eq_true rfl, by show 0 + (j2 - 0) ≤ 128; omega⟩ (Nat.le_of_ble_eq_true rfl) (dk rfl) ?_
        rintro v h3 ⟨q1, rfl, hq1, hB1, rfl⟩
        have X1 := Ext.new hq1 (IA ((y1.drop 0).take (j2 - 0)))
        have l1 : ((y1.drop 0).take (j2 - 0)).length = j2 := by rw [List.length_take, List.drop_zero]; omega
        refine WS.widen (k' := 1) (n' := j2) (Nat.le_of_ble_eq_true rfl) (by show 0 + 0 + (j2 - 0) ≤ j2; omega) ?_
        repeat refine fst1_ok X (dk rfl) rfl ?_
        refine getf_ok X flX10_11 (dk rfl) (X1 _ _ M1.obj) rfl ?_
        refine fst1_ok X (dk rfl) rfl ?_
        refine ldr_ok X (dk rfl) (X1 _ _ s2) e3 (by omega) ?_
        refine callS_ok (av := [.ref q1, .ref b3]) (r := [vI j1, .ref o]) X E (c_joined _ (hup_self _ _ _) (X1 _ _ g3) (by rw [l1]; omega) (by omega)) lkX10_joined mlX10_102 lsX10_joined ⟨Nat.le_of_ble_eq_true rfl, Nat.le_of_ble_eq_true rfl⟩ ⟨Nat.le_of_ble_eq_true rfl, by show j2 + (((y1.drop 0).take (j2 - 0)).length + y3.length) ≤ 128; rw [l1]; omega⟩ (Nat.le_of_ble_eq_true rfl) (dk rfl) ?_
        rintro v h3 ⟨q2, rfl, hq2, hB2, rfl⟩
        have X2 := X1.trans (Ext.new hq2 (IA ((y1.drop 0).take (j2 - 0) ++ y3)))
        refine WS.widen (k' := 2) (n' := 48) (Nat.le_of_ble_eq_true rfl) (by show j2 + (((y1.drop 0).take (j2 - 0)).length + y3.length) ≤ 48; rw [l1]; omega) ?_
        repeat refine fst1_ok X (dk rfl) rfl ?_
        refine callS_ok (av := [.ref b1, vI j2]) (r := [.ref b1, .ref q2, vI j1, .ref o]) X E (c_end _ (X2 _ _ g1) w1.lt (by omega) t1) lkX10_end mlX10_36 lsX10_end ⟨Nat.le_of_ble_eq_true rfl, Nat.le_of_ble_eq_true rfl⟩ ⟨Nat.le_of_ble_eq_true rfl, Nat.le_of_ble_eq_true rfl⟩ (Nat.le_of_ble_eq_true rfl) (dk rfl) ?_
        rintro v h3 ⟨rfl, rfl⟩
        repeat refine fst1_ok X (dk rfl) rfl ?_
        refine alen_ok X (by decide) (dk rfl) (X2 _ _ g1) ?_
        rw [ly1]
        refine callS_ok (av := [.ref b1, vI (j2 + k0), vI y1.length]) (r := [.ref q2, vI j1, .ref o]) X E (c_piece _ (X2 _ _ g1) (by omega) (Nat.le_refl _) (by omega) rfl) lkX10_piece mlX10_40 lsX10_piece ⟨Nat.le_of_ble_eq_true rfl, Nat.le_of_ble_eq_true rfl⟩ ⟨Nat.le_of_ble_eq_true rfl, by show 48 + (y1.length - (j2 + k0)) ≤ 128; omega⟩ (Nat.le_of_ble_eq_true rfl) (dk rfl) ?_
        rintro v h3 ⟨q3, rfl, hq3, hB3, rfl⟩
        refine WS.widen (k' := 3) (n' := 64) (Nat.le_of_ble_eq_true rfl) (by show 48 + (y1.length - (j2 + k0)) ≤ 64; omega) ?_
        have X3 := X2.trans (Ext.new hq3 (IA ((y1.drop (j2 + k0)).take (y1.length - (j2 + k0)))))
        have l3 : ((y1.drop (j2 + k0)).take (y1.length - (j2 + k0))).length = y1.length - (j2 + k0) := by rw [List.length_take, List.length_drop]; omega
        have l2 : ((y1.drop 0).take (j2 - 0) ++ y3).length = j2 + y3.length := by rw [List.length_append, l1]
        refine callS_ok (av := [.ref q2, .ref q3]) (r := [vI j1, .ref o]) X E (c_joined _ (Ext.new hq3 _ _ _ (hup_self _ _ _)) (hup_self _ _ _) (by rw [l2]; omega) (by rw [l3]; omega)) lkX10_joined mlX10_102 lsX10_joined ⟨Nat.le_of_ble_eq_true rfl, Nat.le_of_ble_eq_true rfl⟩ ⟨Nat.le_of_ble_eq_true rfl, by show 64 + (((y1.drop 0).take (j2 - 0) ++ y3).length + ((y1.drop (j2 + k0)).take (y1.length - (j2 + k0))).length) ≤ 128; rw [l2, l3]; omega⟩ (Nat.le_of_ble_eq_true rfl) (dk rfl) ?_
        rintro v h3 ⟨q4, rfl, hq4, hB4, rfl⟩
        refine WS.widen (k' := 4) (n' := 128) (Nat.le_of_ble_eq_true rfl) (by show 64 + (((y1.drop 0).take (j2 - 0) ++ y3).length + ((y1.drop (j2 + k0)).take (y1.length - (j2 + k0))).length) ≤ 128; rw [l2, l3]; omega) ?_
        have e8 : (y1.drop (j2 + k0)).take (y1.length - (j2 + k0)) = y1.drop (j2 + k0) := List.take_of_length_le (by rw [List.length_drop]; omega)
        have e9 : ((y1.drop 0).take (j2 - 0) ++ y3) ++ (y1.drop (j2 + k0)).take (y1.length - (j2 + k0)) = (y1.take j2 ++ y3) ++ y1.drop (j2 + k0) := by rw [e8, List.drop_zero, Nat.sub_zero]
        have X4 := X3.trans (Ext.new hq4 (IA (((y1.drop 0).take (j2 - 0) ++ y3) ++ (y1.drop (j2 + k0)).take (y1.length - (j2 + k0)))))
        have M2 := M1.ext X4
        refine callV_ok (ci := 12) (T := TX10) (N := 6) (av := [vI j1, .ref q4]) (r := []) X E (c_give _ M2 hj1 (hup_self _ _ _) (by rw [e9]; exact w1.graft w3 hj2 t1) (by rw [List.length_append, l2, l3]; omega)) lkX10_give mlX10_106 lmX10_give lpX10_give ⟨Nat.le_of_ble_eq_true rfl, Nat.le_of_ble_eq_true rfl⟩ ⟨Nat.le_of_ble_eq_true rfl, Nat.le_of_ble_eq_true rfl⟩ rfl M2.obj (Nat.le_of_ble_eq_true rfl) (dk rfl) ?_
        rintro v h9 ⟨rfl, I9⟩
        exact reti_ok X hr hlk rfl (dk rfl) (refR_tr ⟨rfl, I9⟩ (F1.trans (Fr.ext X4)) (by unfold aGraft; dsimp only; rw [e9, if_pos (okI_t hj1 (by decide)), if_pos (okI_t hj3 (by decide)), xI_n (by omega), getD_of f1, if_pos (okI_t hj2 (by omega)), xI_n (by omega), xI_n (by omega), getD_of f3]; unfold grL; rw [et])) (Nat.le_of_ble_eq_true rfl) (Nat.le_of_ble_eq_true rfl)
  iterate 2 refine fst1_ok X (dk rfl) rfl ?_
  refine isSlot_ok X E mlX10_95 ⟨Nat.le_of_ble_eq_true rfl, Nat.le_of_ble_eq_true rfl⟩ ⟨Nat.le_of_ble_eq_true rfl, Nat.le_of_ble_eq_true rfl⟩ (Nat.le_of_ble_eq_true rfl) (dk rfl) (fun mid1b0 mid1h0 mid1n0 => ?_)
  cases mid1b0 with
  | false =>
    refine br_ok X (dk rfl) rfl (show ((5 : Nat) : Int) + 10 = ((15 : Nat) : Int) from rfl) (fun _ => ?_) (fun q => absurd bI_f' q)
    refine fst1_ok X (dk rfl) rfl ?_
    refine br_ok X (dk rfl) rfl (show ((16 : Nat) : Int) + 4 = ((20 : Nat) : Int) from rfl) (fun _ => ?_) (fun q => absurd trivial q)
    exact mid1 true (fun z => by cases z) (fun _ hh => absurd (hh.1) (mid1n0 rfl))
  | true =>
    refine br_ok X (dk rfl) rfl (show ((5 : Nat) : Int) + 10 = ((15 : Nat) : Int) from rfl) (fun q => absurd q bI_t) (fun _ => ?_)
    iterate 1 refine fst1_ok X (dk rfl) rfl ?_
    refine isSlot_ok X E mlX10_95 ⟨Nat.le_of_ble_eq_true rfl, Nat.le_of_ble_eq_true rfl⟩ ⟨Nat.le_of_ble_eq_true rfl, Nat.le_of_ble_eq_true rfl⟩ (Nat.le_of_ble_eq_true rfl) (dk rfl) (fun mid1b1 mid1h1 mid1n1 => ?_)
    cases mid1b1 with
    | false =>
      refine br_ok X (dk rfl) rfl (show ((12 : Nat) : Int) + 7 = ((19 : Nat) : Int) from rfl) (fun q => absurd q bI_f) (fun _ => ?_)
      refine fst1_ok X (dk rfl) rfl ?_
      refine br_ok X (dk rfl) rfl (show ((16 : Nat) : Int) + 4 = ((20 : Nat) : Int) from rfl) (fun _ => ?_) (fun q => absurd trivial q)
      exact mid1 true (fun z => by cases z) (fun _ hh => absurd (hh.2) (mid1n1 rfl))
    | true =>
      refine br_ok X (dk rfl) rfl (show ((12 : Nat) : Int) + 7 = ((19 : Nat) : Int) from rfl) (fun _ => ?_) (fun q => absurd bI_t q)
      refine fst1_ok X (dk rfl) rfl ?_
      exact mid1 false (fun _ => ⟨mid1h0 rfl, mid1h1 rfl⟩) (fun z => by cases z)
set_option maxHeartbeats 4000000 in
theorem RF.c_size (h : AH) (M : MD h o S A sl an da dr kn th) (x1 : Int32) : CT la D cA B0 pa yX10_size cX10_size 2 (some .int) (rmD 2 0 0) [.ref o, .int x1] h (refR o S A kn (aSize x1 (sl, an, da, dr)) h) := by
  refine CT_of (by decide +kernel) (Nat.le_of_ble_eq_true rfl) ?_
  intro p e s m args below meth c X E hr hlk hnm
  have dk : ∀ {pc : Nat} {q : Instr × Nat}, lkd DX10_size pc = some q → decode cX10_size pc = .ok q := lkd_ok DX10_size_ok
  have mid1 : ∀ t1 : Bool, (t1 = false → inN 6 x1) → (t1 = true → ¬ (inN 6 x1)) → WR p la e (rmD 2 0 0) s m args below meth c D cA B0 2 (refR o S A kn (aSize x1 (sl, an, da, dr)) h) 13 (lv_args 0 [.ref o, .int x1]) [.int (bI t1), .ref o] h 0 0 := by
    intro t1 ht1 hn1
    refine thr1_ok X E M ⟨Nat.le_of_ble_eq_true rfl, Nat.le_of_ble_eq_true rfl⟩ ⟨Nat.le_of_ble_eq_true rfl, Nat.le_of_ble_eq_true rfl⟩ (Nat.le_of_ble_eq_true rfl) (dk rfl) (fun h1 M1 F1 => ?_)
    cases hb : t1 with
    | true =>
      have hT1 : ¬ (inN 6 x1) → aSize x1 (sl, an, da, dr) = ((1, 0), (sl, an, da, dr)) := (fun hn => by
          unfold aSize
          by_cases q0 : okI 6 x1 = true
          rotate_left
          · exact if_neg q0
          rw [if_pos q0]
          exact absurd (okI_in (by decide) q0) hn)
      have hE : aSize x1 (sl, an, da, dr) = ((thI t1 false, 0), (sl, an, da, dr)) := by
        rw [hb]
        exact hT1 (hn1 hb)
      refine br_ok X (dk rfl) rfl (show ((16 : Nat) : Int) + 7 = ((23 : Nat) : Int) from rfl) (fun q => absurd q bI_t) (fun _ => ?_)
      refine fst1_ok X (dk rfl) rfl ?_
      refine br_ok X (dk rfl) rfl (show ((20 : Nat) : Int) + 10 = ((30 : Nat) : Int) from rfl) (fun _ => ?_) (fun q => absurd trivial q)
      exact reti_ok X hr hlk rfl (dk rfl) (refR_thr M1 F1 hE (by decide +kernel)) (Nat.zero_le _) (Nat.zero_le _)
    | false =>
      refine br_ok X (dk rfl) rfl (show ((16 : Nat) : Int) + 7 = ((23 : Nat) : Int) from rfl) (fun _ => ?_) (fun q => absurd bI_f' q)
      obtain ⟨j1, hj1, rfl⟩ := ht1 hb
      have M1 : MD h1 o S A sl an da dr kn (nI 0) := by
        rw [hb] at M1
        exact M1
      obtain ⟨ss, s1, s2, s3⟩ := M1.slot
      obtain ⟨as, a1, a2, a3⟩ := M1.ans
      obtain ⟨b1, y1, e1, f1, g1, w1, n1⟩ := s3 j1 hj1
      have ly1 : (y1.map vI).length = y1.length := List.length_map _
      repeat refine fst1_ok X (dk rfl) rfl ?_
      refine getf_ok X flX10_11 (dk rfl) M1.obj rfl ?_
      refine fst1_ok X (dk rfl) rfl ?_
      refine ldr_ok X (dk rfl) s2 e1 (by omega) ?_
      refine alen_ok X (by decide) (dk rfl) g1 ?_
      exact reti_ok X hr hlk rfl (dk rfl) (refR_ok M1 F1 (by unfold aSize; dsimp only; rw [if_pos (okI_t hj1 (by decide)), xI_n (by omega), getD_of f1]; rw [ly1]; first | done | rfl)) (Nat.le_of_ble_eq_true rfl) (Nat.le_of_ble_eq_true rfl)
  iterate 2 refine fst1_ok X (dk rfl) rfl ?_
  refine isSlot_ok X E mlX10_95 ⟨Nat.le_of_ble_eq_true rfl, Nat.le_of_ble_eq_true rfl⟩ ⟨Nat.le_of_ble_eq_true rfl, Nat.le_of_ble_eq_true rfl⟩ (Nat.le_of_ble_eq_true rfl) (dk rfl) (fun mid1b0 mid1h0 mid1n0 => ?_)
  cases mid1b0 with
  | false =>
    refine br_ok X (dk rfl) rfl (show ((5 : Nat) : Int) + 7 = ((12 : Nat) : Int) from rfl) (fun q => absurd q bI_f) (fun _ => ?_)
    refine fst1_ok X (dk rfl) rfl ?_
    refine br_ok X (dk rfl) rfl (show ((9 : Nat) : Int) + 4 = ((13 : Nat) : Int) from rfl) (fun _ => ?_) (fun q => absurd trivial q)
    exact mid1 true (fun z => by cases z) (fun _ hh => absurd (hh) (mid1n0 rfl))
  | true =>
    refine br_ok X (dk rfl) rfl (show ((5 : Nat) : Int) + 7 = ((12 : Nat) : Int) from rfl) (fun _ => ?_) (fun q => absurd bI_t q)
    refine fst1_ok X (dk rfl) rfl ?_
    exact mid1 false (fun _ => mid1h0 rfl) (fun z => by cases z)
set_option maxHeartbeats 4000000 in
theorem RF.c_use (h : AH) (M : MD h o S A sl an da dr kn th) (x1 x2 x3 : Int32) : CT la D cA B0 pa yX10_use cX10_use 4 (some .int) (rmD 2 17 272) [.ref o, .int x1, .int x2, .int x3] h (refR o S A kn (aUse x1 x2 x3 (sl, an, da, dr)) h) := by
  refine CT_of (by decide +kernel) (Nat.le_of_ble_eq_true rfl) ?_
  intro p e s m args below meth c X E hr hlk hnm
  have dk : ∀ {pc : Nat} {q : Instr × Nat}, lkd DX10_use pc = some q → decode cX10_use pc = .ok q := lkd_ok DX10_use_ok
  have mid1 : ∀ t1 : Bool, (t1 = false → inN 3 x1 ∧ inN 6 x2 ∧ inN 6 x3) → (t1 = true → ¬ (inN 3 x1 ∧ inN 6 x2 ∧ inN 6 x3)) → WR p la e (rmD 2 17 272) s m args below meth c D cA B0 4 (refR o S A kn (aUse x1 x2 x3 (sl, an, da, dr)) h) 27 (lv_args 0 [.ref o, .int x1, .int x2, .int x3]) [.int (bI t1), .ref o] h 0 0 := by
    intro t1 ht1 hn1
    refine thr1_ok X E M ⟨Nat.le_of_ble_eq_true rfl, Nat.le_of_ble_eq_true rfl⟩ ⟨Nat.le_of_ble_eq_true rfl, Nat.le_of_ble_eq_true rfl⟩ (Nat.le_of_ble_eq_true rfl) (dk rfl) (fun h1 M1 F1 => ?_)
    cases hb : t1 with
    | true =>
      have hT1 : ¬ (inN 3 x1 ∧ inN 6 x2 ∧ inN 6 x3) → aUse x1 x2 x3 (sl, an, da, dr) = ((1, 0), (sl, an, da, dr)) := (fun hn => by
          unfold aUse
          by_cases q0 : okI 3 x1 = true
          rotate_left
          · exact if_neg q0
          rw [if_pos q0]
          by_cases q1 : okI 6 x2 = true
          rotate_left
          · exact if_neg q1
          rw [if_pos q1]
          by_cases q2 : okI 6 x3 = true
          rotate_left
          · exact if_neg q2
          rw [if_pos q2]
          exact absurd ⟨okI_in (by decide) q0, okI_in (by decide) q1, okI_in (by decide) q2⟩ hn)
      have hE : aUse x1 x2 x3 (sl, an, da, dr) = ((thI t1 false, 0), (sl, an, da, dr)) := by
        rw [hb]
        exact hT1 (hn1 hb)
      refine br_ok X (dk rfl) rfl (show ((30 : Nat) : Int) + 7 = ((37 : Nat) : Int) from rfl) (fun q => absurd q bI_t) (fun _ => ?_)
      refine fst1_ok X (dk rfl) rfl ?_
      refine br_ok X (dk rfl) rfl (show ((34 : Nat) : Int) + 23 = ((57 : Nat) : Int) from rfl) (fun _ => ?_) (fun q => absurd trivial q)
      exact reti_ok X hr hlk rfl (dk rfl) (refR_thr M1 F1 hE (by decide +kernel)) (Nat.zero_le _) (Nat.zero_le _)
    | false =>
      refine br_ok X (dk rfl) rfl (show ((30 : Nat) : Int) + 7 = ((37 : Nat) : Int) from rfl) (fun _ => ?_) (fun q => absurd bI_f' q)
      obtain ⟨⟨j1, hj1, rfl⟩, ⟨j2, hj2, rfl⟩, ⟨j3, hj3, rfl⟩⟩ := ht1 hb
      have M1 : MD h1 o S A sl an da dr kn (nI 0) := by
        rw [hb] at M1
        exact M1
      obtain ⟨ss, s1, s2, s3⟩ := M1.slot
      obtain ⟨as, a1, a2, a3⟩ := M1.ans
      obtain ⟨b1, y1, e1, f1, g1, w1, n1⟩ := a3 j1 hj1
      obtain ⟨b2, y2, e2, f2, g2, w2, n2⟩ := s3 j2 hj2
      have ly2 : (y2.map vI).length = y2.length := List.length_map _
      obtain ⟨b3, y3, e3, f3, g3, w3, n3⟩ := s3 j3 hj3
      have ly3 : (y3.map vI).length = y3.length := List.length_map _
      repeat refine fst1_ok X (dk rfl) rfl ?_
      refine getf_ok X flX10_16 (dk rfl) M1.obj rfl ?_
      refine fst1_ok X (dk rfl) rfl ?_
      refine lda_ok X (dk rfl) a2 e1 (by omega) ?_
      repeat refine fst1_ok X (dk rfl) rfl ?_
      refine getf_ok X flX10_11 (dk rfl) M1.obj rfl ?_
      refine fst1_ok X (dk rfl) rfl ?_
      refine ldr_ok X (dk rfl) s2 e2 (by omega) ?_
      have ul : (usedL y1 y2).length ≤ 256 := by have := usedL_len y1 (M := 16) (fun z hz => (w1.2 z hz).2) (by omega) y2; omega
      refine callS_ok (av := [.ref b1, .ref b2]) (r := [vI j3, .ref o]) X E (c_used h1 g1 g2 (by omega) (by rw [w1.1]; omega) w2.lt (fun z hz hz10 => by rw [w1.1]; rcases w2.2 z hz with q | q <;> omega) (by omega)) lkX10_used mlX10_120 lsX10_used ⟨Nat.le_of_ble_eq_true rfl, Nat.le_of_ble_eq_true rfl⟩ ⟨by show 0 + (1 + y2.length) ≤ 17; omega, by show 0 + ((usedL y1 y2).length + y2.length) ≤ 272; omega⟩ (Nat.le_of_ble_eq_true rfl) (dk rfl) ?_
      rintro v h4 ⟨q, rfl, hq, hBq, XQ, hQ⟩
      refine WS.widen (k' := 17) (n' := 272) (by show 0 + (1 + y2.length) ≤ 17; omega) (by show 0 + ((usedL y1 y2).length + y2.length) ≤ 272; omega) ?_
      have tU := TW.used (rows := y1) (fun z hz => (w1.2 z hz).1) (by rw [w1.1]; omega) w2
      have M2 := M1.ext XQ
      refine callV_ok (ci := 12) (T := TX10) (N := 6) (av := [vI j3, .ref q]) (r := []) X E (c_give _ M2 hj3 hQ tU (by omega)) lkX10_give mlX10_106 lmX10_give lpX10_give ⟨Nat.le_of_ble_eq_true rfl, Nat.le_of_ble_eq_true rfl⟩ ⟨Nat.le_of_ble_eq_true rfl, Nat.le_of_ble_eq_true rfl⟩ rfl M2.obj (Nat.le_of_ble_eq_true rfl) (dk rfl) ?_
      rintro v h9 ⟨rfl, I9⟩
      exact reti_ok X hr hlk rfl (dk rfl) (refR_tr ⟨rfl, I9⟩ (F1.trans (Fr.ext XQ)) (by unfold aUse; dsimp only; rw [if_pos (okI_t hj1 (by decide)), if_pos (okI_t hj2 (by decide)), if_pos (okI_t hj3 (by decide)), xI_n (by omega), xI_n (by omega), xI_n (by omega), getD_of f1, getD_of f2]; first | done | rfl)) (Nat.le_of_ble_eq_true rfl) (Nat.le_of_ble_eq_true rfl)
  iterate 2 refine fst1_ok X (dk rfl) rfl ?_
  refine isAnswer_ok X E mlX10_135 ⟨Nat.le_of_ble_eq_true rfl, Nat.le_of_ble_eq_true rfl⟩ ⟨Nat.le_of_ble_eq_true rfl, Nat.le_of_ble_eq_true rfl⟩ (Nat.le_of_ble_eq_true rfl) (dk rfl) (fun mid1b0 mid1h0 mid1n0 => ?_)
  cases mid1b0 with
  | false =>
    refine br_ok X (dk rfl) rfl (show ((5 : Nat) : Int) + 17 = ((22 : Nat) : Int) from rfl) (fun _ => ?_) (fun q => absurd bI_f' q)
    refine fst1_ok X (dk rfl) rfl ?_
    refine br_ok X (dk rfl) rfl (show ((23 : Nat) : Int) + 4 = ((27 : Nat) : Int) from rfl) (fun _ => ?_) (fun q => absurd trivial q)
    exact mid1 true (fun z => by cases z) (fun _ hh => absurd (hh.1) (mid1n0 rfl))
  | true =>
    refine br_ok X (dk rfl) rfl (show ((5 : Nat) : Int) + 17 = ((22 : Nat) : Int) from rfl) (fun q => absurd q bI_t) (fun _ => ?_)
    iterate 1 refine fst1_ok X (dk rfl) rfl ?_
    refine isSlot_ok X E mlX10_95 ⟨Nat.le_of_ble_eq_true rfl, Nat.le_of_ble_eq_true rfl⟩ ⟨Nat.le_of_ble_eq_true rfl, Nat.le_of_ble_eq_true rfl⟩ (Nat.le_of_ble_eq_true rfl) (dk rfl) (fun mid1b1 mid1h1 mid1n1 => ?_)
    cases mid1b1 with
    | false =>
      refine br_ok X (dk rfl) rfl (show ((12 : Nat) : Int) + 10 = ((22 : Nat) : Int) from rfl) (fun _ => ?_) (fun q => absurd bI_f' q)
      refine fst1_ok X (dk rfl) rfl ?_
      refine br_ok X (dk rfl) rfl (show ((23 : Nat) : Int) + 4 = ((27 : Nat) : Int) from rfl) (fun _ => ?_) (fun q => absurd trivial q)
      exact mid1 true (fun z => by cases z) (fun _ hh => absurd (hh.2.1) (mid1n1 rfl))
    | true =>
      refine br_ok X (dk rfl) rfl (show ((12 : Nat) : Int) + 10 = ((22 : Nat) : Int) from rfl) (fun q => absurd q bI_t) (fun _ => ?_)
      iterate 1 refine fst1_ok X (dk rfl) rfl ?_
      refine isSlot_ok X E mlX10_95 ⟨Nat.le_of_ble_eq_true rfl, Nat.le_of_ble_eq_true rfl⟩ ⟨Nat.le_of_ble_eq_true rfl, Nat.le_of_ble_eq_true rfl⟩ (Nat.le_of_ble_eq_true rfl) (dk rfl) (fun mid1b2 mid1h2 mid1n2 => ?_)
      cases mid1b2 with
      | false =>
        refine br_ok X (dk rfl) rfl (show ((19 : Nat) : Int) + 7 = ((26 : Nat) : Int) from rfl) (fun q => absurd q bI_f) (fun _ => ?_)
        refine fst1_ok X (dk rfl) rfl ?_
        refine br_ok X (dk rfl) rfl (show ((23 : Nat) : Int) + 4 = ((27 : Nat) : Int) from rfl) (fun _ => ?_) (fun q => absurd trivial q)
        exact mid1 true (fun z => by cases z) (fun _ hh => absurd (hh.2.2) (mid1n2 rfl))
      | true =>
        refine br_ok X (dk rfl) rfl (show ((19 : Nat) : Int) + 7 = ((26 : Nat) : Int) from rfl) (fun _ => ?_) (fun q => absurd bI_t q)
        refine fst1_ok X (dk rfl) rfl ?_
        exact mid1 false (fun _ => ⟨mid1h0 rfl, mid1h1 rfl, mid1h2 rfl⟩) (fun z => by cases z)
set_option maxHeartbeats 4000000 in
theorem RF.c_plain (h : AH) (M : MD h o S A sl an da dr kn th) (x1 : Int32) : CT la D cA B0 pa yX10_plain cX10_plain 2 (some .int) (rmD 2 2 24) [.ref o, .int x1] h (refR o S A kn (aPlain x1 (sl, an, da, dr)) h) := by
  refine CT_of (by decide +kernel) (Nat.le_of_ble_eq_true rfl) ?_
  intro p e s m args below meth c X E hr hlk hnm
  have dk : ∀ {pc : Nat} {q : Instr × Nat}, lkd DX10_plain pc = some q → decode cX10_plain pc = .ok q := lkd_ok DX10_plain_ok
  have mid1 : ∀ t1 : Bool, (t1 = false → inN 6 x1) → (t1 = true → ¬ (inN 6 x1)) → WR p la e (rmD 2 2 24) s m args below meth c D cA B0 2 (refR o S A kn (aPlain x1 (sl, an, da, dr)) h) 13 (lv_args 0 [.ref o, .int x1]) [.int (bI t1), .ref o] h 0 0 := by
    intro t1 ht1 hn1
    refine thr1_ok X E M ⟨Nat.le_of_ble_eq_true rfl, Nat.le_of_ble_eq_true rfl⟩ ⟨Nat.le_of_ble_eq_true rfl, Nat.le_of_ble_eq_true rfl⟩ (Nat.le_of_ble_eq_true rfl) (dk rfl) (fun h1 M1 F1 => ?_)
    cases hb : t1 with
    | true =>
      have hT1 : ¬ (inN 6 x1) → aPlain x1 (sl, an, da, dr) = ((1, 0), (sl, an, da, dr)) := (fun hn => by
          unfold aPlain
          by_cases q0 : okI 6 x1 = true
          rotate_left
          · exact if_neg q0
          rw [if_pos q0]
          exact absurd (okI_in (by decide) q0) hn)
      have hE : aPlain x1 (sl, an, da, dr) = ((thI t1 false, 0), (sl, an, da, dr)) := by
        rw [hb]
        exact hT1 (hn1 hb)
      refine br_ok X (dk rfl) rfl (show ((16 : Nat) : Int) + 5 = ((21 : Nat) : Int) from rfl) (fun q => absurd q bI_t) (fun _ => ?_)
      refine fst1_ok X (dk rfl) rfl ?_
      exact reti_ok X hr hlk rfl (dk rfl) (refR_thr M1 F1 hE (by decide +kernel)) (Nat.zero_le _) (Nat.zero_le _)
    | false =>
      refine br_ok X (dk rfl) rfl (show ((16 : Nat) : Int) + 5 = ((21 : Nat) : Int) from rfl) (fun _ => ?_) (fun q => absurd bI_f' q)
      obtain ⟨j1, hj1, rfl⟩ := ht1 hb
      have M1 : MD h1 o S A sl an da dr kn (nI 0) := by
        rw [hb] at M1
        exact M1
      obtain ⟨ss, s1, s2, s3⟩ := M1.slot
      obtain ⟨as, a1, a2, a3⟩ := M1.ans
      obtain ⟨b1, y1, e1, f1, g1, w1, n1⟩ := s3 j1 hj1
      have ly1 : (y1.map vI).length = y1.length := List.length_map _
      repeat refine fst1_ok X (dk rfl) rfl ?_
      refine getf_ok X flX10_11 (dk rfl) M1.obj rfl ?_
      repeat refine fst1_ok X (dk rfl) rfl ?_
      refine getf_ok X flX10_11 (dk rfl) M1.obj rfl ?_
      refine fst1_ok X (dk rfl) rfl ?_
      refine ldr_ok X (dk rfl) s2 e1 (by omega) ?_
      refine callS_ok (av := [.ref b1]) (r := [vI j1, .ref S]) X E (c_plainOf h1 g1 w1.2 n1) lkX10_plainOf mlX10_131 lsX10_plainOf ⟨Nat.le_of_ble_eq_true rfl, Nat.le_of_ble_eq_true rfl⟩ ⟨Nat.le_of_ble_eq_true rfl, by show 0 + (8 + y1.length) ≤ 24; omega⟩ (Nat.le_of_ble_eq_true rfl) (dk rfl) ?_
      rintro v h2 ⟨q, rfl, hq, hBq, XQ, hQ⟩
      have M2 := M1.ext XQ
      obtain ⟨tp, lp⟩ := w1.plain
      obtain ⟨vs, v1, v2, M3⟩ := M2.setS hj1 hQ ⟨tp, by omega⟩
      refine str_ok X (dk rfl) v1 hQ (by omega) (by omega) ?_
      refine WS.widen (k' := 2) (n' := 24) (Nat.le_of_ble_eq_true rfl) (by show 0 + (8 + y1.length) ≤ 24; omega) ?_
      obtain ⟨ss2, u1, u2, u3⟩ := M3.slot
      obtain ⟨c1, z1, i1, i2, i3, i4, i5⟩ := u3 j1 hj1
      repeat refine fst1_ok X (dk rfl) rfl ?_
      refine getf_ok X flX10_11 (dk rfl) M3.obj rfl ?_
      refine fst1_ok X (dk rfl) rfl ?_
      refine ldr_ok X (dk rfl) u2 i1 (by omega) ?_
      refine callS_ok (av := [.ref c1]) (r := [.ref o]) X E (c_namesOf _ i3 (by omega) i4.lt) lkX10_namesOf mlX10_124 lsX10_namesOf ⟨Nat.le_of_ble_eq_true rfl, Nat.le_of_ble_eq_true rfl⟩ ⟨Nat.le_of_ble_eq_true rfl, Nat.le_of_ble_eq_true rfl⟩ (Nat.le_of_ble_eq_true rfl) (dk rfl) ?_
      rintro v h3 ⟨rfl, rfl⟩
      refine callS_ok (av := [vI (namesN z1)]) (r := [.ref o]) X E (c_ones _ (nI (namesN z1))) lkX10_ones mlX10_128 lsX10_ones ⟨Nat.le_of_ble_eq_true rfl, Nat.le_of_ble_eq_true rfl⟩ ⟨Nat.le_of_ble_eq_true rfl, Nat.le_of_ble_eq_true rfl⟩ (Nat.le_of_ble_eq_true rfl) (dk rfl) ?_
      rintro v h3 ⟨rfl, rfl⟩
      refine done_ok X E M3 ⟨Nat.le_of_ble_eq_true rfl, Nat.le_of_ble_eq_true rfl⟩ ⟨Nat.le_of_ble_eq_true rfl, Nat.le_of_ble_eq_true rfl⟩ (Nat.le_of_ble_eq_true rfl) (dk rfl) (fun h9 M9 F9 => ?_)
      exact reti_ok X hr hlk rfl (dk rfl) (refR_ok M9 ((F1.trans ((Fr.ext XQ).set (Or.inr (Or.inl rfl)) _)).trans F9) (by have ez : z1 = plainL y1 := Option.some.inj (i2.symm.trans (List.getElem?_set_self (by have := M.2.2.1; omega))); rw [ez, plainL_P w1.2]; unfold aPlain; dsimp only; rw [if_pos (okI_t hj1 (by decide)), xI_n (by omega), getD_of f1]; first | done | rfl)) (Nat.le_of_ble_eq_true rfl) (Nat.le_of_ble_eq_true rfl)
  iterate 2 refine fst1_ok X (dk rfl) rfl ?_
  refine isSlot_ok X E mlX10_95 ⟨Nat.le_of_ble_eq_true rfl, Nat.le_of_ble_eq_true rfl⟩ ⟨Nat.le_of_ble_eq_true rfl, Nat.le_of_ble_eq_true rfl⟩ (Nat.le_of_ble_eq_true rfl) (dk rfl) (fun mid1b0 mid1h0 mid1n0 => ?_)
  cases mid1b0 with
  | false =>
    refine br_ok X (dk rfl) rfl (show ((5 : Nat) : Int) + 7 = ((12 : Nat) : Int) from rfl) (fun q => absurd q bI_f) (fun _ => ?_)
    refine fst1_ok X (dk rfl) rfl ?_
    refine br_ok X (dk rfl) rfl (show ((9 : Nat) : Int) + 4 = ((13 : Nat) : Int) from rfl) (fun _ => ?_) (fun q => absurd trivial q)
    exact mid1 true (fun z => by cases z) (fun _ hh => absurd (hh) (mid1n0 rfl))
  | true =>
    refine br_ok X (dk rfl) rfl (show ((5 : Nat) : Int) + 7 = ((12 : Nat) : Int) from rfl) (fun _ => ?_) (fun q => absurd bI_t q)
    refine fst1_ok X (dk rfl) rfl ?_
    exact mid1 false (fun _ => mid1h0 rfl) (fun z => by cases z)
set_option maxHeartbeats 4000000 in
theorem RF.c_common (h : AH) (M : MD h o S A sl an da dr kn th) (x1 x2 x3 : Int32) : CT la D cA B0 pa yX10_common cX10_common 4 (some .int) (rmD 4 35 96) [.ref o, .int x1, .int x2, .int x3] h (refR o S A kn (aCommon x1 x2 x3 (sl, an, da, dr)) h) := by
  refine CT_of (by decide +kernel) (Nat.le_of_ble_eq_true rfl) ?_
  intro p e s m args below meth c X E hr hlk hnm
  have dk : ∀ {pc : Nat} {q : Instr × Nat}, lkd DX10_common pc = some q → decode cX10_common pc = .ok q := lkd_ok DX10_common_ok
  have mid1 : ∀ t1 : Bool, (t1 = false → inN 6 x1 ∧ inN 6 x2 ∧ inN 6 x3) → (t1 = true → ¬ (inN 6 x1 ∧ inN 6 x2 ∧ inN 6 x3)) → WR p la e (rmD 4 35 96) s m args below meth c D cA B0 4 (refR o S A kn (aCommon x1 x2 x3 (sl, an, da, dr)) h) 27 (lv_args 0 [.ref o, .int x1, .int x2, .int x3]) [.int (bI t1), .ref o] h 0 0 := by
    intro t1 ht1 hn1
    refine thr1_ok X E M ⟨Nat.le_of_ble_eq_true rfl, Nat.le_of_ble_eq_true rfl⟩ ⟨Nat.le_of_ble_eq_true rfl, Nat.le_of_ble_eq_true rfl⟩ (Nat.le_of_ble_eq_true rfl) (dk rfl) (fun h1 M1 F1 => ?_)
    cases hb : t1 with
    | true =>
      have hT1 : ¬ (inN 6 x1 ∧ inN 6 x2 ∧ inN 6 x3) → aCommon x1 x2 x3 (sl, an, da, dr) = ((1, 0), (sl, an, da, dr)) := (fun hn => by
          unfold aCommon
          by_cases q0 : okI 6 x1 = true
          rotate_left
          · exact if_neg q0
          rw [if_pos q0]
          by_cases q1 : okI 6 x2 = true
          rotate_left
          · exact if_neg q1
          rw [if_pos q1]
          by_cases q2 : okI 6 x3 = true
          rotate_left
          · exact if_neg q2
          rw [if_pos q2]
          exact absurd ⟨okI_in (by decide) q0, okI_in (by decide) q1, okI_in (by decide) q2⟩ hn)
      have hE : aCommon x1 x2 x3 (sl, an, da, dr) = ((thI t1 false, 0), (sl, an, da, dr)) := by
        rw [hb]
        exact hT1 (hn1 hb)
      refine br_ok X (dk rfl) rfl (show ((30 : Nat) : Int) + 7 = ((37 : Nat) : Int) from rfl) (fun q => absurd q bI_t) (fun _ => ?_)
      refine fst1_ok X (dk rfl) rfl ?_
      refine br_ok X (dk rfl) rfl (show ((34 : Nat) : Int) + 23 = ((57 : Nat) : Int) from rfl) (fun _ => ?_) (fun q => absurd trivial q)
      exact reti_ok X hr hlk rfl (dk rfl) (refR_thr M1 F1 hE (by decide +kernel)) (Nat.zero_le _) (Nat.zero_le _)
    | false =>
      refine br_ok X (dk rfl) rfl (show ((30 : Nat) : Int) + 7 = ((37 : Nat) : Int) from rfl) (fun _ => ?_) (fun q => absurd bI_f' q)
      obtain ⟨⟨j1, hj1, rfl⟩, ⟨j2, hj2, rfl⟩, ⟨j3, hj3, rfl⟩⟩ := ht1 hb
      have M1 : MD h1 o S A sl an da dr kn (nI 0) := by
        rw [hb] at M1
        exact M1
      obtain ⟨ss, s1, s2, s3⟩ := M1.slot
      obtain ⟨as, a1, a2, a3⟩ := M1.ans
      obtain ⟨b1, y1, e1, f1, g1, w1, n1⟩ := s3 j1 hj1
      have ly1 : (y1.map vI).length = y1.length := List.length_map _
      obtain ⟨b2, y2, e2, f2, g2, w2, n2⟩ := s3 j2 hj2
      have ly2 : (y2.map vI).length = y2.length := List.length_map _
      obtain ⟨b3, y3, e3, f3, g3, w3, n3⟩ := s3 j3 hj3
      have ly3 : (y3.map vI).length = y3.length := List.length_map _
      repeat refine fst1_ok X (dk rfl) rfl ?_
      refine getf_ok X flX10_11 (dk rfl) M1.obj rfl ?_
      refine fst1_ok X (dk rfl) rfl ?_
      refine ldr_ok X (dk rfl) s2 e1 (by omega) ?_
      repeat refine fst1_ok X (dk rfl) rfl ?_
      refine getf_ok X flX10_11 (dk rfl) M1.obj rfl ?_
      refine fst1_ok X (dk rfl) rfl ?_
      refine ldr_ok X (dk rfl) s2 e2 (by omega) ?_
      refine callS_ok (av := [.ref b1, .ref b2]) (r := [vI j3, .ref o]) X E (c_commonOf h1 g1 g2 w1 w2 n1 n2) lkX10_commonOf mlX10_138 lsX10_commonOf ⟨Nat.le_of_ble_eq_true rfl, Nat.le_of_ble_eq_true rfl⟩ ⟨Nat.le_of_ble_eq_true rfl, Nat.le_of_ble_eq_true rfl⟩ (Nat.le_of_ble_eq_true rfl) (dk rfl) ?_
      rintro v h2 (⟨h8n, rfl, XQ⟩ | ⟨h8, q, rfl, hq, hBq, XQ, hQ⟩)
      · have M2 := M1.ext XQ
        refine callV_ok (ci := 12) (T := TX10) (N := 6) (av := [vI j3, .null]) (r := []) X E (c_giveN _ M2 (nI j3)) lkX10_give mlX10_106 lmX10_give lpX10_give ⟨Nat.le_of_ble_eq_true rfl, Nat.le_of_ble_eq_true rfl⟩ ⟨Nat.le_of_ble_eq_true rfl, Nat.le_of_ble_eq_true rfl⟩ rfl M2.obj (Nat.le_of_ble_eq_true rfl) (dk rfl) ?_
        rintro v h9 ⟨rfl, I9⟩
        exact reti_ok X hr hlk rfl (dk rfl) (refR_tr ⟨rfl, I9⟩ (F1.trans (Fr.ext XQ)) (by unfold aCommon; dsimp only; rw [if_pos (okI_t hj1 (by decide)), if_pos (okI_t hj2 (by decide)), if_pos (okI_t hj3 (by decide)), xI_n (by omega), xI_n (by omega), xI_n (by omega), getD_of f1, getD_of f2]; rw [if_neg (Nat.not_le.mpr h8n)]; first | done | rfl)) (Nat.le_of_ble_eq_true rfl) (Nat.le_of_ble_eq_true rfl)
      · have M2 := M1.ext XQ
        obtain ⟨tc, lc⟩ := comL_ok w1 w2 n1 n2 h8
        refine callV_ok (ci := 12) (T := TX10) (N := 6) (av := [vI j3, .ref q]) (r := []) X E (c_give _ M2 hj3 hQ tc (by omega)) lkX10_give mlX10_106 lmX10_give lpX10_give ⟨Nat.le_of_ble_eq_true rfl, Nat.le_of_ble_eq_true rfl⟩ ⟨Nat.le_of_ble_eq_true rfl, Nat.le_of_ble_eq_true rfl⟩ rfl M2.obj (Nat.le_of_ble_eq_true rfl) (dk rfl) ?_
        rintro v h9 ⟨rfl, I9⟩
        exact reti_ok X hr hlk rfl (dk rfl) (refR_tr ⟨rfl, I9⟩ (F1.trans (Fr.ext XQ)) (by unfold aCommon; dsimp only; rw [if_pos (okI_t hj1 (by decide)), if_pos (okI_t hj2 (by decide)), if_pos (okI_t hj3 (by decide)), xI_n (by omega), xI_n (by omega), xI_n (by omega), getD_of f1, getD_of f2]; rw [if_pos h8]; first | done | rfl)) (Nat.le_of_ble_eq_true rfl) (Nat.le_of_ble_eq_true rfl)
  iterate 2 refine fst1_ok X (dk rfl) rfl ?_
  refine isSlot_ok X E mlX10_95 ⟨Nat.le_of_ble_eq_true rfl, Nat.le_of_ble_eq_true rfl⟩ ⟨Nat.le_of_ble_eq_true rfl, Nat.le_of_ble_eq_true rfl⟩ (Nat.le_of_ble_eq_true rfl) (dk rfl) (fun mid1b0 mid1h0 mid1n0 => ?_)
  cases mid1b0 with
  | false =>
    refine br_ok X (dk rfl) rfl (show ((5 : Nat) : Int) + 17 = ((22 : Nat) : Int) from rfl) (fun _ => ?_) (fun q => absurd bI_f' q)
    refine fst1_ok X (dk rfl) rfl ?_
    refine br_ok X (dk rfl) rfl (show ((23 : Nat) : Int) + 4 = ((27 : Nat) : Int) from rfl) (fun _ => ?_) (fun q => absurd trivial q)
    exact mid1 true (fun z => by cases z) (fun _ hh => absurd (hh.1) (mid1n0 rfl))
  | true =>
    refine br_ok X (dk rfl) rfl (show ((5 : Nat) : Int) + 17 = ((22 : Nat) : Int) from rfl) (fun q => absurd q bI_t) (fun _ => ?_)
    iterate 1 refine fst1_ok X (dk rfl) rfl ?_
    refine isSlot_ok X E mlX10_95 ⟨Nat.le_of_ble_eq_true rfl, Nat.le_of_ble_eq_true rfl⟩ ⟨Nat.le_of_ble_eq_true rfl, Nat.le_of_ble_eq_true rfl⟩ (Nat.le_of_ble_eq_true rfl) (dk rfl) (fun mid1b1 mid1h1 mid1n1 => ?_)
    cases mid1b1 with
    | false =>
      refine br_ok X (dk rfl) rfl (show ((12 : Nat) : Int) + 10 = ((22 : Nat) : Int) from rfl) (fun _ => ?_) (fun q => absurd bI_f' q)
      refine fst1_ok X (dk rfl) rfl ?_
      refine br_ok X (dk rfl) rfl (show ((23 : Nat) : Int) + 4 = ((27 : Nat) : Int) from rfl) (fun _ => ?_) (fun q => absurd trivial q)
      exact mid1 true (fun z => by cases z) (fun _ hh => absurd (hh.2.1) (mid1n1 rfl))
    | true =>
      refine br_ok X (dk rfl) rfl (show ((12 : Nat) : Int) + 10 = ((22 : Nat) : Int) from rfl) (fun q => absurd q bI_t) (fun _ => ?_)
      iterate 1 refine fst1_ok X (dk rfl) rfl ?_
      refine isSlot_ok X E mlX10_95 ⟨Nat.le_of_ble_eq_true rfl, Nat.le_of_ble_eq_true rfl⟩ ⟨Nat.le_of_ble_eq_true rfl, Nat.le_of_ble_eq_true rfl⟩ (Nat.le_of_ble_eq_true rfl) (dk rfl) (fun mid1b2 mid1h2 mid1n2 => ?_)
      cases mid1b2 with
      | false =>
        refine br_ok X (dk rfl) rfl (show ((19 : Nat) : Int) + 7 = ((26 : Nat) : Int) from rfl) (fun q => absurd q bI_f) (fun _ => ?_)
        refine fst1_ok X (dk rfl) rfl ?_
        refine br_ok X (dk rfl) rfl (show ((23 : Nat) : Int) + 4 = ((27 : Nat) : Int) from rfl) (fun _ => ?_) (fun q => absurd trivial q)
        exact mid1 true (fun z => by cases z) (fun _ hh => absurd (hh.2.2) (mid1n2 rfl))
      | true =>
        refine br_ok X (dk rfl) rfl (show ((19 : Nat) : Int) + 7 = ((26 : Nat) : Int) from rfl) (fun _ => ?_) (fun q => absurd bI_t q)
        refine fst1_ok X (dk rfl) rfl ?_
        exact mid1 false (fun _ => ⟨mid1h0 rfl, mid1h1 rfl, mid1h2 rfl⟩) (fun z => by cases z)
set_option maxHeartbeats 4000000 in
theorem RF.c_forget (h : AH) (M : MD h o S A sl an da dr kn th) (x1 : Int32) : CT la D cA B0 pa yX10_forget cX10_forget 3 (some .int) (rmD 4 17 24) [.ref o, .int x1] h (refR o S A kn (aForget x1 (sl, an, da, dr)) h) := by
  refine CT_of (by decide +kernel) (Nat.le_of_ble_eq_true rfl) ?_
  intro p e s m args below meth c X E hr hlk hnm
  have dk : ∀ {pc : Nat} {q : Instr × Nat}, lkd DX10_forget pc = some q → decode cX10_forget pc = .ok q := lkd_ok DX10_forget_ok
  have mid1 : ∀ t1 : Bool, (t1 = false → inN 3 x1) → (t1 = true → ¬ (inN 3 x1)) → WR p la e (rmD 4 17 24) s m args below meth c D cA B0 3 (refR o S A kn (aForget x1 (sl, an, da, dr)) h) 13 (lv_args 0 [.ref o, .int x1]) [.int (bI t1), .ref o] h 0 0 := by
    intro t1 ht1 hn1
    refine thr1_ok X E M ⟨Nat.le_of_ble_eq_true rfl, Nat.le_of_ble_eq_true rfl⟩ ⟨Nat.le_of_ble_eq_true rfl, Nat.le_of_ble_eq_true rfl⟩ (Nat.le_of_ble_eq_true rfl) (dk rfl) (fun h1 M1 F1 => ?_)
    cases hb : t1 with
    | true =>
      have hT1 : ¬ (inN 3 x1) → aForget x1 (sl, an, da, dr) = ((1, 0), (sl, an, da, dr)) := (fun hn => by
          unfold aForget
          by_cases q0 : okI 3 x1 = true
          rotate_left
          · exact if_neg q0
          rw [if_pos q0]
          exact absurd (okI_in (by decide) q0) hn)
      have hE : aForget x1 (sl, an, da, dr) = ((thI t1 false, 0), (sl, an, da, dr)) := by
        rw [hb]
        exact hT1 (hn1 hb)
      refine br_ok X (dk rfl) rfl (show ((16 : Nat) : Int) + 5 = ((21 : Nat) : Int) from rfl) (fun q => absurd q bI_t) (fun _ => ?_)
      refine fst1_ok X (dk rfl) rfl ?_
      exact reti_ok X hr hlk rfl (dk rfl) (refR_thr M1 F1 hE (by decide +kernel)) (Nat.zero_le _) (Nat.zero_le _)
    | false =>
      refine br_ok X (dk rfl) rfl (show ((16 : Nat) : Int) + 5 = ((21 : Nat) : Int) from rfl) (fun _ => ?_) (fun q => absurd bI_f' q)
      obtain ⟨j1, hj1, rfl⟩ := ht1 hb
      have M1 : MD h1 o S A sl an da dr kn (nI 0) := by
        rw [hb] at M1
        exact M1
      obtain ⟨ss, s1, s2, s3⟩ := M1.slot
      obtain ⟨as, a1, a2, a3⟩ := M1.ans
      obtain ⟨b1, y1, e1, f1, g1, w1, n1⟩ := a3 j1 hj1
      repeat refine fst1_ok X (dk rfl) rfl ?_
      refine getf_ok X flX10_16 (dk rfl) M1.obj rfl ?_
      refine fst1_ok X (dk rfl) rfl ?_
      refine lda_ok X (dk rfl) a2 e1 (by omega) ?_
      refine callS_ok (av := [.ref b1]) (r := []) X E (c_movedBy h1 g1 w1) lkX10_movedBy mlX10_141 lsX10_movedBy ⟨Nat.le_of_ble_eq_true rfl, Nat.le_of_ble_eq_true rfl⟩ ⟨Nat.le_of_ble_eq_true rfl, Nat.le_of_ble_eq_true rfl⟩ (Nat.le_of_ble_eq_true rfl) (dk rfl) ?_
      rintro v h2 ⟨rfl, E1⟩
      refine callS_ok (av := [vI (movedN y1 8)]) (r := []) X E (c_ones h2 (nI (movedN y1 8))) lkX10_ones mlX10_128 lsX10_ones ⟨Nat.le_of_ble_eq_true rfl, Nat.le_of_ble_eq_true rfl⟩ ⟨Nat.le_of_ble_eq_true rfl, Nat.le_of_ble_eq_true rfl⟩ (Nat.le_of_ble_eq_true rfl) (dk rfl) ?_
      rintro v h3 ⟨rfl, rfl⟩
      have M2 := M1.ext E1
      repeat refine fst1_ok X (dk rfl) rfl ?_
      refine getf_ok X flX10_16 (dk rfl) M2.obj rfl ?_
      refine fst1_ok X (dk rfl) rfl ?_
      refine callS_ok (av := []) (r := [vI j1, .ref A]) X E (c_none h3) lkX10_none mlX10_24 lsX10_none ⟨Nat.le_of_ble_eq_true rfl, Nat.le_of_ble_eq_true rfl⟩ ⟨Nat.le_of_ble_eq_true rfl, Nat.le_of_ble_eq_true rfl⟩ (Nat.le_of_ble_eq_true rfl) (dk rfl) ?_
      rintro v h4 ⟨N, rfl, hN, hBN, XN, nN⟩
      have M3 := M2.ext XN
      obtain ⟨vn, kn1⟩ := nN.kind
      have hNS : N ≠ S := fun z => by rw [z, E1 _ _ s2] at hN; cases hN
      obtain ⟨vs, v1, v2, M4⟩ := M3.setA hj1 nN AO_none hNS
      refine sta_ok X (dk rfl) v1 kn1 (by omega) (by omega) ?_
      repeat refine fst1_ok X (dk rfl) rfl ?_
      refine done_ok X E M4 ⟨Nat.le_of_ble_eq_true rfl, Nat.le_of_ble_eq_true rfl⟩ ⟨Nat.le_of_ble_eq_true rfl, Nat.le_of_ble_eq_true rfl⟩ (Nat.le_of_ble_eq_true rfl) (dk rfl) (fun h9 M9 F9 => ?_)
      exact reti_ok X hr hlk rfl (dk rfl) (refR_ok M9 ((F1.trans ((Fr.ext (E1.trans XN)).set (Or.inr (Or.inr rfl)) _)).trans F9) (by unfold aForget; dsimp only; rw [if_pos (okI_t hj1 (by decide)), xI_n (by omega), getD_of f1]; first | done | rfl)) (Nat.le_of_ble_eq_true rfl) (Nat.le_of_ble_eq_true rfl)
  iterate 2 refine fst1_ok X (dk rfl) rfl ?_
  refine isAnswer_ok X E mlX10_135 ⟨Nat.le_of_ble_eq_true rfl, Nat.le_of_ble_eq_true rfl⟩ ⟨Nat.le_of_ble_eq_true rfl, Nat.le_of_ble_eq_true rfl⟩ (Nat.le_of_ble_eq_true rfl) (dk rfl) (fun mid1b0 mid1h0 mid1n0 => ?_)
  cases mid1b0 with
  | false =>
    refine br_ok X (dk rfl) rfl (show ((5 : Nat) : Int) + 7 = ((12 : Nat) : Int) from rfl) (fun q => absurd q bI_f) (fun _ => ?_)
    refine fst1_ok X (dk rfl) rfl ?_
    refine br_ok X (dk rfl) rfl (show ((9 : Nat) : Int) + 4 = ((13 : Nat) : Int) from rfl) (fun _ => ?_) (fun q => absurd trivial q)
    exact mid1 true (fun z => by cases z) (fun _ hh => absurd (hh) (mid1n0 rfl))
  | true =>
    refine br_ok X (dk rfl) rfl (show ((5 : Nat) : Int) + 7 = ((12 : Nat) : Int) from rfl) (fun _ => ?_) (fun q => absurd bI_t q)
    refine fst1_ok X (dk rfl) rfl ?_
    exact mid1 false (fun _ => mid1h0 rfl) (fun z => by cases z)
set_option maxHeartbeats 4000000 in
theorem RF.c_take (h : AH) (M : MD h o S A sl an da dr kn th) (x1 x2 : Int32) : CT la D cA B0 pa yX10_take cX10_take 3 (some .int) (rmD 5 8 8) [.ref o, .int x1, .int x2] h (refR o S A kn (aTake x1 x2 (sl, an, da, dr)) h) := by
  refine CT_of (by decide +kernel) (Nat.le_of_ble_eq_true rfl) ?_
  intro p e s m args below meth c X E hr hlk hnm
  have dk : ∀ {pc : Nat} {q : Instr × Nat}, lkd DX10_take pc = some q → decode cX10_take pc = .ok q := lkd_ok DX10_take_ok
  have mid1 : ∀ t1 : Bool, (t1 = false → inN 3 x1 ∧ inN 3 x2) → (t1 = true → ¬ (inN 3 x1 ∧ inN 3 x2)) → WR p la e (rmD 5 8 8) s m args below meth c D cA B0 3 (refR o S A kn (aTake x1 x2 (sl, an, da, dr)) h) 20 (lv_args 0 [.ref o, .int x1, .int x2]) [.int (bI t1), .ref o] h 0 0 := by
    intro t1 ht1 hn1
    refine thr1_ok X E M ⟨Nat.le_of_ble_eq_true rfl, Nat.le_of_ble_eq_true rfl⟩ ⟨Nat.le_of_ble_eq_true rfl, Nat.le_of_ble_eq_true rfl⟩ (Nat.le_of_ble_eq_true rfl) (dk rfl) (fun h1 M1 F1 => ?_)
    cases hb : t1 with
    | true =>
      have hT1 : ¬ (inN 3 x1 ∧ inN 3 x2) → aTake x1 x2 (sl, an, da, dr) = ((1, 0), (sl, an, da, dr)) := (fun hn => by
          unfold aTake
          by_cases q0 : okI 3 x1 = true
          rotate_left
          · exact if_neg q0
          rw [if_pos q0]
          by_cases q1 : okI 3 x2 = true
          rotate_left
          · exact if_neg q1
          rw [if_pos q1]
          exact absurd ⟨okI_in (by decide) q0, okI_in (by decide) q1⟩ hn)
      have hE : aTake x1 x2 (sl, an, da, dr) = ((thI t1 false, 0), (sl, an, da, dr)) := by
        rw [hb]
        exact hT1 (hn1 hb)
      refine br_ok X (dk rfl) rfl (show ((23 : Nat) : Int) + 7 = ((30 : Nat) : Int) from rfl) (fun q => absurd q bI_t) (fun _ => ?_)
      refine fst1_ok X (dk rfl) rfl ?_
      refine br_ok X (dk rfl) rfl (show ((27 : Nat) : Int) + 14 = ((41 : Nat) : Int) from rfl) (fun _ => ?_) (fun q => absurd trivial q)
      exact reti_ok X hr hlk rfl (dk rfl) (refR_thr M1 F1 hE (by decide +kernel)) (Nat.zero_le _) (Nat.zero_le _)
    | false =>
      refine br_ok X (dk rfl) rfl (show ((23 : Nat) : Int) + 7 = ((30 : Nat) : Int) from rfl) (fun _ => ?_) (fun q => absurd bI_f' q)
      obtain ⟨⟨j1, hj1, rfl⟩, ⟨j2, hj2, rfl⟩⟩ := ht1 hb
      have M1 : MD h1 o S A sl an da dr kn (nI 0) := by
        rw [hb] at M1
        exact M1
      obtain ⟨ss, s1, s2, s3⟩ := M1.slot
      obtain ⟨as, a1, a2, a3⟩ := M1.ans
      obtain ⟨b1, y1, e1, f1, g1, w1, n1⟩ := a3 j1 hj1
      obtain ⟨b2, y2, e2, f2, g2, w2, n2⟩ := a3 j2 hj2
      repeat refine fst1_ok X (dk rfl) rfl ?_
      refine getf_ok X flX10_16 (dk rfl) M1.obj rfl ?_
      refine fst1_ok X (dk rfl) rfl ?_
      refine lda_ok X (dk rfl) a2 e1 (by omega) ?_
      refine callV_ok (ci := 12) (T := TX10) (N := 6) (av := [vI j2, .ref b1]) (r := []) X E (c_become h1 M1 hj2 g1 w1 n1) lkX10_become mlX10_145 lmX10_become lpX10_become ⟨Nat.le_of_ble_eq_true rfl, Nat.le_of_ble_eq_true rfl⟩ ⟨Nat.le_of_ble_eq_true rfl, Nat.le_of_ble_eq_true rfl⟩ rfl M1.obj (Nat.le_of_ble_eq_true rfl) (dk rfl) ?_
      rintro v h9 ⟨rfl, I9⟩
      exact reti_ok X hr hlk rfl (dk rfl) (refR_tr ⟨rfl, I9⟩ (F1) (by unfold aTake; dsimp only; rw [if_pos (okI_t hj1 (by decide)), if_pos (okI_t hj2 (by decide)), xI_n (by omega), xI_n (by omega), getD_of f1]; first | done | rfl)) (Nat.le_of_ble_eq_true rfl) (Nat.le_of_ble_eq_true rfl)
  iterate 2 refine fst1_ok X (dk rfl) rfl ?_
  refine isAnswer_ok X E mlX10_135 ⟨Nat.le_of_ble_eq_true rfl, Nat.le_of_ble_eq_true rfl⟩ ⟨Nat.le_of_ble_eq_true rfl, Nat.le_of_ble_eq_true rfl⟩ (Nat.le_of_ble_eq_true rfl) (dk rfl) (fun mid1b0 mid1h0 mid1n0 => ?_)
  cases mid1b0 with
  | false =>
    refine br_ok X (dk rfl) rfl (show ((5 : Nat) : Int) + 10 = ((15 : Nat) : Int) from rfl) (fun _ => ?_) (fun q => absurd bI_f' q)
    refine fst1_ok X (dk rfl) rfl ?_
    refine br_ok X (dk rfl) rfl (show ((16 : Nat) : Int) + 4 = ((20 : Nat) : Int) from rfl) (fun _ => ?_) (fun q => absurd trivial q)
    exact mid1 true (fun z => by cases z) (fun _ hh => absurd (hh.1) (mid1n0 rfl))
  | true =>
    refine br_ok X (dk rfl) rfl (show ((5 : Nat) : Int) + 10 = ((15 : Nat) : Int) from rfl) (fun q => absurd q bI_t) (fun _ => ?_)
    iterate 1 refine fst1_ok X (dk rfl) rfl ?_
    refine isAnswer_ok X E mlX10_135 ⟨Nat.le_of_ble_eq_true rfl, Nat.le_of_ble_eq_true rfl⟩ ⟨Nat.le_of_ble_eq_true rfl, Nat.le_of_ble_eq_true rfl⟩ (Nat.le_of_ble_eq_true rfl) (dk rfl) (fun mid1b1 mid1h1 mid1n1 => ?_)
    cases mid1b1 with
    | false =>
      refine br_ok X (dk rfl) rfl (show ((12 : Nat) : Int) + 7 = ((19 : Nat) : Int) from rfl) (fun q => absurd q bI_f) (fun _ => ?_)
      refine fst1_ok X (dk rfl) rfl ?_
      refine br_ok X (dk rfl) rfl (show ((16 : Nat) : Int) + 4 = ((20 : Nat) : Int) from rfl) (fun _ => ?_) (fun q => absurd trivial q)
      exact mid1 true (fun z => by cases z) (fun _ hh => absurd (hh.2) (mid1n1 rfl))
    | true =>
      refine br_ok X (dk rfl) rfl (show ((12 : Nat) : Int) + 7 = ((19 : Nat) : Int) from rfl) (fun _ => ?_) (fun q => absurd bI_t q)
      refine fst1_ok X (dk rfl) rfl ?_
      exact mid1 false (fun _ => ⟨mid1h0 rfl, mid1h1 rfl⟩) (fun z => by cases z)
set_option maxHeartbeats 4000000 in
theorem RF.c_match (h : AH) (M : MD h o S A sl an da dr kn th) (x1 x2 x3 : Int32) : CT la D cA B0 pa yX10_match cX10_match 5 (some .int) (rmD 5 33 40) [.ref o, .int x1, .int x2, .int x3] h (refR o S A kn (aMatch x1 x2 x3 (sl, an, da, dr)) h) := by
  refine CT_of (by decide +kernel) (Nat.le_of_ble_eq_true rfl) ?_
  intro p e s m args below meth c X E hr hlk hnm
  have dk : ∀ {pc : Nat} {q : Instr × Nat}, lkd DX10_match pc = some q → decode cX10_match pc = .ok q := lkd_ok DX10_match_ok
  have mid1 : ∀ t1 : Bool, (t1 = false → inN 6 x1 ∧ inN 6 x2 ∧ inN 3 x3) → (t1 = true → ¬ (inN 6 x1 ∧ inN 6 x2 ∧ inN 3 x3)) → WR p la e (rmD 5 33 40) s m args below meth c D cA B0 5 (refR o S A kn (aMatch x1 x2 x3 (sl, an, da, dr)) h) 27 (lv_args 0 [.ref o, .int x1, .int x2, .int x3]) [.int (bI t1), .ref o] h 0 0 := by
    intro t1 ht1 hn1
    refine thr1_ok X E M ⟨Nat.le_of_ble_eq_true rfl, Nat.le_of_ble_eq_true rfl⟩ ⟨Nat.le_of_ble_eq_true rfl, Nat.le_of_ble_eq_true rfl⟩ (Nat.le_of_ble_eq_true rfl) (dk rfl) (fun h1 M1 F1 => ?_)
    cases hb : t1 with
    | true =>
      have hT1 : ¬ (inN 6 x1 ∧ inN 6 x2 ∧ inN 3 x3) → aMatch x1 x2 x3 (sl, an, da, dr) = ((1, 0), (sl, an, da, dr)) := (fun hn => by
          unfold aMatch
          by_cases q0 : okI 6 x1 = true
          rotate_left
          · exact if_neg q0
          rw [if_pos q0]
          by_cases q1 : okI 6 x2 = true
          rotate_left
          · exact if_neg q1
          rw [if_pos q1]
          by_cases q2 : okI 3 x3 = true
          rotate_left
          · exact if_neg q2
          rw [if_pos q2]
          exact absurd ⟨okI_in (by decide) q0, okI_in (by decide) q1, okI_in (by decide) q2⟩ hn)
      have hE : aMatch x1 x2 x3 (sl, an, da, dr) = ((thI t1 false, 0), (sl, an, da, dr)) := by
        rw [hb]
        exact hT1 (hn1 hb)
      refine br_ok X (dk rfl) rfl (show ((30 : Nat) : Int) + 5 = ((35 : Nat) : Int) from rfl) (fun q => absurd q bI_t) (fun _ => ?_)
      refine fst1_ok X (dk rfl) rfl ?_
      exact reti_ok X hr hlk rfl (dk rfl) (refR_thr M1 F1 hE (by decide +kernel)) (Nat.zero_le _) (Nat.zero_le _)
    | false =>
      refine br_ok X (dk rfl) rfl (show ((30 : Nat) : Int) + 5 = ((35 : Nat) : Int) from rfl) (fun _ => ?_) (fun q => absurd bI_f' q)
      obtain ⟨⟨j1, hj1, rfl⟩, ⟨j2, hj2, rfl⟩, ⟨j3, hj3, rfl⟩⟩ := ht1 hb
      have M1 : MD h1 o S A sl an da dr kn (nI 0) := by
        rw [hb] at M1
        exact M1
      obtain ⟨ss, s1, s2, s3⟩ := M1.slot
      obtain ⟨as, a1, a2, a3⟩ := M1.ans
      obtain ⟨b1, y1, e1, f1, g1, w1, n1⟩ := s3 j1 hj1
      have ly1 : (y1.map vI).length = y1.length := List.length_map _
      obtain ⟨b2, y2, e2, f2, g2, w2, n2⟩ := s3 j2 hj2
      have ly2 : (y2.map vI).length = y2.length := List.length_map _
      obtain ⟨b3, y3, e3, f3, g3, w3, n3⟩ := a3 j3 hj3
      repeat refine fst1_ok X (dk rfl) rfl ?_
      refine getf_ok X flX10_11 (dk rfl) M1.obj rfl ?_
      refine fst1_ok X (dk rfl) rfl ?_
      refine ldr_ok X (dk rfl) s2 e1 (by omega) ?_
      repeat refine fst1_ok X (dk rfl) rfl ?_
      refine getf_ok X flX10_11 (dk rfl) M1.obj rfl ?_
      refine fst1_ok X (dk rfl) rfl ?_
      refine ldr_ok X (dk rfl) s2 e2 (by omega) ?_
      refine callS_ok (av := [.ref b1, .ref b2]) (r := []) X E (c_matched h1 g1 g2 w1.2 w2 n1 n2) lkX10_matched mlX10_169 lsX10_matched ⟨Nat.le_of_ble_eq_true rfl, Nat.le_of_ble_eq_true rfl⟩ ⟨Nat.le_of_ble_eq_true rfl, Nat.le_of_ble_eq_true rfl⟩ (Nat.le_of_ble_eq_true rfl) (dk rfl) ?_
      rintro v h2 ⟨hP, hAO⟩
      cases hm : matchL y1 y2 with
      | none =>
        rw [hm] at hP
        obtain ⟨rfl, XQ⟩ := hP
        repeat refine fst1_ok X (dk rfl) rfl ?_
        refine br_ok X (dk rfl) rfl (show ((54 : Nat) : Int) + 11 = ((65 : Nat) : Int) from rfl) (fun q => absurd q (fun z => z)) (fun _ => ?_)
        repeat refine fst1_ok X (dk rfl) rfl ?_
        have M2 := M1.ext XQ
        refine done_ok X E M2 ⟨Nat.le_of_ble_eq_true rfl, Nat.le_of_ble_eq_true rfl⟩ ⟨Nat.le_of_ble_eq_true rfl, Nat.le_of_ble_eq_true rfl⟩ (Nat.le_of_ble_eq_true rfl) (dk rfl) (fun h9 M9 F9 => ?_)
        refine br_ok X (dk rfl) rfl (show ((62 : Nat) : Int) + 10 = ((72 : Nat) : Int) from rfl) (fun _ => ?_) (fun q => absurd trivial q)
        exact reti_ok X hr hlk rfl (dk rfl) (refR_ok M9 ((F1.trans (Fr.ext XQ)).trans F9) (by unfold aMatch; dsimp only; rw [if_pos (okI_t hj1 (by decide)), if_pos (okI_t hj2 (by decide)), if_pos (okI_t hj3 (by decide)), xI_n (by omega), xI_n (by omega), xI_n (by omega), getD_of f1, getD_of f2, hm]; first | done | rfl)) (Nat.le_of_ble_eq_true rfl) (Nat.le_of_ble_eq_true rfl)
      | some rows =>
        rw [hm] at hP
        obtain ⟨q, rfl, hq, hBq, XQ, nQ⟩ := hP
        have oQ := hAO rows hm
        repeat refine fst1_ok X (dk rfl) rfl ?_
        refine br_ok X (dk rfl) rfl (show ((54 : Nat) : Int) + 11 = ((65 : Nat) : Int) from rfl) (fun _ => ?_) (fun q => absurd trivial q)
        repeat refine fst1_ok X (dk rfl) rfl ?_
        have M2 := M1.ext XQ
        have hqS : q ≠ S := fun z => by rw [z, s2] at hq; cases hq
        refine callV_ok (ci := 12) (T := TX10) (N := 6) (av := [vI j3, .ref q]) (r := []) X E (c_become _ M2 hj3 nQ oQ hqS) lkX10_become mlX10_145 lmX10_become lpX10_become ⟨Nat.le_of_ble_eq_true rfl, Nat.le_of_ble_eq_true rfl⟩ ⟨Nat.le_of_ble_eq_true rfl, Nat.le_of_ble_eq_true rfl⟩ rfl M2.obj (Nat.le_of_ble_eq_true rfl) (dk rfl) ?_
        rintro v h9 ⟨rfl, I9⟩
        exact reti_ok X hr hlk rfl (dk rfl) (refR_tr ⟨rfl, I9⟩ (F1.trans (Fr.ext XQ)) (by unfold aMatch; dsimp only; rw [if_pos (okI_t hj1 (by decide)), if_pos (okI_t hj2 (by decide)), if_pos (okI_t hj3 (by decide)), xI_n (by omega), xI_n (by omega), xI_n (by omega), getD_of f1, getD_of f2, hm]; exact becA_short oQ _ _)) (Nat.le_of_ble_eq_true rfl) (Nat.le_of_ble_eq_true rfl)
  iterate 2 refine fst1_ok X (dk rfl) rfl ?_
  refine isSlot_ok X E mlX10_95 ⟨Nat.le_of_ble_eq_true rfl, Nat.le_of_ble_eq_true rfl⟩ ⟨Nat.le_of_ble_eq_true rfl, Nat.le_of_ble_eq_true rfl⟩ (Nat.le_of_ble_eq_true rfl) (dk rfl) (fun mid1b0 mid1h0 mid1n0 => ?_)
  cases mid1b0 with
  | false =>
    refine br_ok X (dk rfl) rfl (show ((5 : Nat) : Int) + 17 = ((22 : Nat) : Int) from rfl) (fun _ => ?_) (fun q => absurd bI_f' q)
    refine fst1_ok X (dk rfl) rfl ?_
    refine br_ok X (dk rfl) rfl (show ((23 : Nat) : Int) + 4 = ((27 : Nat) : Int) from rfl) (fun _ => ?_) (fun q => absurd trivial q)
    exact mid1 true (fun z => by cases z) (fun _ hh => absurd (hh.1) (mid1n0 rfl))
  | true =>
    refine br_ok X (dk rfl) rfl (show ((5 : Nat) : Int) + 17 = ((22 : Nat) : Int) from rfl) (fun q => absurd q bI_t) (fun _ => ?_)
    iterate 1 refine fst1_ok X (dk rfl) rfl ?_
    refine isSlot_ok X E mlX10_95 ⟨Nat.le_of_ble_eq_true rfl, Nat.le_of_ble_eq_true rfl⟩ ⟨Nat.le_of_ble_eq_true rfl, Nat.le_of_ble_eq_true rfl⟩ (Nat.le_of_ble_eq_true rfl) (dk rfl) (fun mid1b1 mid1h1 mid1n1 => ?_)
    cases mid1b1 with
    | false =>
      refine br_ok X (dk rfl) rfl (show ((12 : Nat) : Int) + 10 = ((22 : Nat) : Int) from rfl) (fun _ => ?_) (fun q => absurd bI_f' q)
      refine fst1_ok X (dk rfl) rfl ?_
      refine br_ok X (dk rfl) rfl (show ((23 : Nat) : Int) + 4 = ((27 : Nat) : Int) from rfl) (fun _ => ?_) (fun q => absurd trivial q)
      exact mid1 true (fun z => by cases z) (fun _ hh => absurd (hh.2.1) (mid1n1 rfl))
    | true =>
      refine br_ok X (dk rfl) rfl (show ((12 : Nat) : Int) + 10 = ((22 : Nat) : Int) from rfl) (fun q => absurd q bI_t) (fun _ => ?_)
      iterate 1 refine fst1_ok X (dk rfl) rfl ?_
      refine isAnswer_ok X E mlX10_135 ⟨Nat.le_of_ble_eq_true rfl, Nat.le_of_ble_eq_true rfl⟩ ⟨Nat.le_of_ble_eq_true rfl, Nat.le_of_ble_eq_true rfl⟩ (Nat.le_of_ble_eq_true rfl) (dk rfl) (fun mid1b2 mid1h2 mid1n2 => ?_)
      cases mid1b2 with
      | false =>
        refine br_ok X (dk rfl) rfl (show ((19 : Nat) : Int) + 7 = ((26 : Nat) : Int) from rfl) (fun q => absurd q bI_f) (fun _ => ?_)
        refine fst1_ok X (dk rfl) rfl ?_
        refine br_ok X (dk rfl) rfl (show ((23 : Nat) : Int) + 4 = ((27 : Nat) : Int) from rfl) (fun _ => ?_) (fun q => absurd trivial q)
        exact mid1 true (fun z => by cases z) (fun _ hh => absurd (hh.2.2) (mid1n2 rfl))
      | true =>
        refine br_ok X (dk rfl) rfl (show ((19 : Nat) : Int) + 7 = ((26 : Nat) : Int) from rfl) (fun _ => ?_) (fun q => absurd bI_t q)
        refine fst1_ok X (dk rfl) rfl ?_
        exact mid1 false (fun _ => ⟨mid1h0 rfl, mid1h1 rfl, mid1h2 rfl⟩) (fun z => by cases z)
set_option maxHeartbeats 4000000 in
theorem RF.c_shift (h : AH) (M : MD h o S A sl an da dr kn th) (x1 x2 : Int32) : CT la D cA B0 pa yX10_shift cX10_shift 5 (some .int) (rmD 2 1 16) [.ref o, .int x1, .int x2] h (refR o S A kn (aShift x1 x2 (sl, an, da, dr)) h) := by
  refine CT_of (by decide +kernel) (Nat.le_of_ble_eq_true rfl) ?_
  intro p e s m args below meth c X E hr hlk hnm
  have dk : ∀ {pc : Nat} {q : Instr × Nat}, lkd DX10_shift pc = some q → decode cX10_shift pc = .ok q := lkd_ok DX10_shift_ok
  have mid2 : ∀ t1 t2 : Bool, (t1 = false → inN 6 x1) → (t1 = true → ¬ (inN 6 x1)) → (t2 = false → inN 8 x2) → (t2 = true → ¬ (inN 8 x2)) → WR p la e (rmD 2 1 16) s m args below meth c D cA B0 5 (refR o S A kn (aShift x1 x2 (sl, an, da, dr)) h) 25 (lv_args 0 [.ref o, .int x1, .int x2]) [.int (bI t2), .int (bI t1), .ref o] h 0 0 := by
    intro t1 t2 ht1 hn1 ht2 hn2
    refine thr2_ok X E M ⟨Nat.le_of_ble_eq_true rfl, Nat.le_of_ble_eq_true rfl⟩ ⟨Nat.le_of_ble_eq_true rfl, Nat.le_of_ble_eq_true rfl⟩ (Nat.le_of_ble_eq_true rfl) (dk rfl) (fun h1 M1 F1 => ?_)
    cases hb : (t1 || t2) with
    | true =>
      have hT1 : ¬ (inN 6 x1) → aShift x1 x2 (sl, an, da, dr) = ((1, 0), (sl, an, da, dr)) := (fun hn => by
          unfold aShift
          by_cases q0 : okI 6 x1 = true
          rotate_left
          · exact if_neg q0
          rw [if_pos q0]
          exact absurd (okI_in (by decide) q0) hn)
      have hT2 : (inN 6 x1) → ¬ (inN 8 x2) → aShift x1 x2 (sl, an, da, dr) = ((2, 0), (sl, an, da, dr)) := (fun hp hq => by
          unfold aShift
          rw [if_pos (okI_of (by decide) (hp)), if_neg (by rw [okI_f hq]; decide)])
      have hE : aShift x1 x2 (sl, an, da, dr) = ((thI t1 t2, 0), (sl, an, da, dr)) := by
        cases t1 with
        | true => exact hT1 (hn1 rfl)
        | false =>
          cases t2 with
          | true => exact hT2 (ht1 rfl) (hn2 rfl)
          | false => cases hb
      refine br_ok X (dk rfl) rfl (show ((28 : Nat) : Int) + 5 = ((33 : Nat) : Int) from rfl) (fun q => absurd q bI_t) (fun _ => ?_)
      refine fst1_ok X (dk rfl) rfl ?_
      exact reti_ok X hr hlk rfl (dk rfl) (refR_thr M1 F1 hE (by decide +kernel)) (Nat.zero_le _) (Nat.zero_le _)
    | false =>
      refine br_ok X (dk rfl) rfl (show ((28 : Nat) : Int) + 5 = ((33 : Nat) : Int) from rfl) (fun _ => ?_) (fun q => absurd bI_f' q)
      obtain ⟨hb1, hb2⟩ := Bool.or_eq_false_iff.mp hb
      obtain ⟨j1, hj1, rfl⟩ := ht1 hb1
      obtain ⟨j2, hj2, rfl⟩ := ht2 hb2
      have th0 : thI t1 t2 = 0 := by
        cases t1 with
        | true => cases hb
        | false =>
          cases t2 with
          | true => cases hb
          | false => rfl
      rw [th0] at M1
      obtain ⟨ss, s1, s2, s3⟩ := M1.slot
      obtain ⟨as, a1, a2, a3⟩ := M1.ans
      obtain ⟨b1, y1, e1, f1, g1, w1, n1⟩ := s3 j1 hj1
      have ly1 : (y1.map vI).length = y1.length := List.length_map _
      repeat refine fst1_ok X (dk rfl) rfl ?_
      refine getf_ok X flX10_11 (dk rfl) M1.obj rfl ?_
      refine fst1_ok X (dk rfl) rfl ?_
      refine ldr_ok X (dk rfl) s2 e1 (by omega) ?_
      repeat refine fst1_ok X (dk rfl) rfl ?_
      refine getf_ok X flX10_11 (dk rfl) M1.obj rfl ?_
      refine fst1_ok X (dk rfl) rfl ?_
      refine ldr_ok X (dk rfl) s2 e1 (by omega) ?_
      refine alen_ok X (by decide) (dk rfl) g1 ?_
      rw [ly1]
      refine callS_ok (av := [.ref b1, vI 0, vI y1.length]) (r := []) X E (c_piece h1 (f := 0) (t := y1.length) g1 (Nat.zero_le _) (Nat.le_refl _) (by omega) rfl) lkX10_piece mlX10_40 lsX10_piece ⟨Nat.le_of_ble_eq_true rfl, Nat.le_of_ble_eq_true rfl⟩ ⟨Nat.le_of_ble_eq_true rfl, by show 0 + (y1.length - 0) ≤ 16; omega⟩ (Nat.le_of_ble_eq_true rfl) (dk rfl) ?_
      rintro v h2 ⟨q, rfl, hq, hBq, rfl⟩
      refine WS.widen (k' := 1) (n' := 16) (Nat.le_of_ble_eq_true rfl) (by show 0 + (y1.length - 0) ≤ 16; omega) ?_
      have e0 : (y1.drop 0).take (y1.length - 0) = mixL (shL j2) y1 0 := by unfold mixL; rw [List.drop_zero, Nat.sub_zero, List.take_length, List.take_zero, List.map_nil, List.nil_append]
      rw [e0]
      have loop : ∀ (d i : Nat), d = y1.length - i → i ≤ y1.length → ∀ (l : List (Nat × Value)), lsel l [4, 3, 2, 1, 0] = [(4, vI i), (3, .ref q), (2, vI j2), (1, vI j1), (0, .ref o)] → WR p la e (rmD 2 1 16) s m args below meth c D cA B0 5 (refR o S A kn (aShift (nI j1) (nI j2) (sl, an, da, dr)) h) 54 l [] (hup h1 q (IA (mixL (shL j2) y1 i))) 1 16 := by
        intro d
        induction d with
        | zero =>
          intro i hd hi l hl
          have hi2 : i = y1.length := by omega
          subst hi2
          refine WS.sel [4, 3, 2, 1, 0] hl ?_
          have eN : mixL (shL j2) y1 y1.length = y1.map (shL j2) := by unfold mixL; rw [List.take_length, List.drop_length, List.append_nil]
          rw [eN]
          have X2 := Ext.new hq (IA (y1.map (shL j2)))
          have M2 := M1.ext X2
          have tS := w1.shift j2
          repeat refine fst1_ok X (dk rfl) rfl ?_
          refine alen_ok (kd := 100) (vs := (y1.map (shL j2)).map vI) X (by decide) (dk rfl) (hup_self _ _ _) ?_
          rw [show ((y1.map (shL j2)).map vI).length = y1.length by simp]
          refine br_ok X (dk rfl) rfl (show ((58 : Nat) : Int) + 31 = ((89 : Nat) : Int) from rfl) (fun _ => ?_) (fun c1 => absurd (Int32.le_refl _) c1)
          repeat refine fst1_ok X (dk rfl) rfl ?_
          refine getf_ok X flX10_11 (dk rfl) M2.obj rfl ?_
          repeat refine fst1_ok X (dk rfl) rfl ?_
          obtain ⟨vs, v1, v2, M3⟩ := M2.setS hj1 (hup_self _ _ _) ⟨tS, by rw [List.length_map]; omega⟩
          refine str_ok X (dk rfl) v1 (hup_self _ _ _) (by omega) (by omega) ?_
          repeat refine fst1_ok X (dk rfl) rfl ?_
          refine callS_ok (av := [.ref q]) (r := [.ref o]) X E (c_namesOf _ (by rw [hup_ne _ _ (IA_ne (hup_self _ _ _) v1)]; exact hup_self _ _ _) (by rw [List.length_map]; omega) tS.lt) lkX10_namesOf mlX10_124 lsX10_namesOf ⟨Nat.le_of_ble_eq_true rfl, Nat.le_of_ble_eq_true rfl⟩ ⟨Nat.le_of_ble_eq_true rfl, Nat.le_of_ble_eq_true rfl⟩ (Nat.le_of_ble_eq_true rfl) (dk rfl) ?_
          rintro v h3 ⟨rfl, rfl⟩
          refine callS_ok (av := [vI (namesN (y1.map (shL j2)))]) (r := [.ref o]) X E (c_ones _ (nI (namesN (y1.map (shL j2))))) lkX10_ones mlX10_128 lsX10_ones ⟨Nat.le_of_ble_eq_true rfl, Nat.le_of_ble_eq_true rfl⟩ ⟨Nat.le_of_ble_eq_true rfl, Nat.le_of_ble_eq_true rfl⟩ (Nat.le_of_ble_eq_true rfl) (dk rfl) ?_
          rintro v h3 ⟨rfl, rfl⟩
          refine done_ok X E M3 ⟨Nat.le_of_ble_eq_true rfl, Nat.le_of_ble_eq_true rfl⟩ ⟨Nat.le_of_ble_eq_true rfl, Nat.le_of_ble_eq_true rfl⟩ (Nat.le_of_ble_eq_true rfl) (dk rfl) (fun h9 M9 F9 => ?_)
          exact reti_ok X hr hlk rfl (dk rfl) (refR_ok M9 ((F1.trans ((Fr.ext X2).set (Or.inr (Or.inl rfl)) _)).trans F9) (by unfold aShift; dsimp only; rw [if_pos (okI_t hj1 (by decide)), if_pos (okI_t hj2 (by decide)), xI_n (by omega), xI_n (by omega), getD_of f1]; first | done | rfl)) (Nat.le_of_ble_eq_true rfl) (Nat.le_of_ble_eq_true rfl)
        | succ d ih =>
          intro i hd hi l hl
          obtain ⟨x, hx⟩ : ∃ x, y1[i]? = some x := ⟨y1[i]'(by omega), by simp⟩
          have hx18 := (w1.2 x (List.mem_of_getElem? hx)).lt
          have lm : ((mixL (shL j2) y1 i).map vI).length = y1.length := by rw [List.length_map, mix_len (by omega)]
          have f2 : Value.int (nI i + Int32.ofInt 1) = vI (i + 1) := congrArg Value.int (by rw [nI_1', nI_add])
          have go9 : ∀ (l : List (Nat × Value)), lsel l [4, 3, 2, 1, 0] = [(4, vI i), (3, .ref q), (2, vI j2), (1, vI j1), (0, .ref o)] → WR p la e (rmD 2 1 16) s m args below meth c D cA B0 5 (refR o S A kn (aShift (nI j1) (nI j2) (sl, an, da, dr)) h) 83 l [] (hup h1 q (IA (mixL (shL j2) y1 (i + 1)))) 1 16 := by
            intro l hl
            refine WS.sel [4, 3, 2, 1, 0] hl ?_
            repeat refine fst1_ok X (dk rfl) rfl ?_
            refine br_ok X (dk rfl) rfl (show ((86 : Nat) : Int) + (-32) = ((54 : Nat) : Int) from rfl) (fun _ => ?_) (fun q => absurd trivial q)
            refine WS.sel (l' := [(4, vI (i + 1)), (3, .ref q), (2, vI j2), (1, vI j1), (0, .ref o)]) [4, 3, 2, 1, 0] (by rw [← f2]; rfl) ?_
            exact ih (i + 1) (by omega) (by omega) _ rfl
          refine WS.sel [4, 3, 2, 1, 0] hl ?_
          repeat refine fst1_ok X (dk rfl) rfl ?_
          refine alen_ok (kd := 100) (vs := (mixL (shL j2) y1 i).map vI) X (by decide) (dk rfl) (hup_self _ _ _) ?_
          rw [lm]
          refine br_ok X (dk rfl) rfl (show ((58 : Nat) : Int) + 31 = ((89 : Nat) : Int) from rfl) (fun c1 => absurd c1 (nI_ge (by omega) (by omega))) (fun _ => ?_)
          repeat refine fst1_ok X (dk rfl) rfl ?_
          refine ald_ok (kd := 100) (vs := (mixL (shL j2) y1 i).map vI) X (Or.inl ⟨rfl, rfl⟩) (dk rfl) (hup_self _ _ _) (inA_nI (by omega) (IA_get (mix_get hx))) ?_
          repeat refine fst1_ok X (dk rfl) rfl ?_
          refine br_ok X (dk rfl) rfl (show ((67 : Nat) : Int) + 16 = ((83 : Nat) : Int) from rfl) (fun c2 => ?_) (fun c2 => ?_)
          · rw [nI_10] at c2
            have hx10 : 10 ≤ x := nI_ge' (by omega) (by omega) c2
            rw [mix_same hx (show shL j2 x = x by unfold shL; rw [if_neg (by omega)])]
            exact go9 _ rfl
          · rw [nI_10] at c2
            have hx10 : x < 10 := nI_lt' (by omega) (by omega) c2
            repeat refine fst1_ok X (dk rfl) rfl ?_
            refine ald_ok (kd := 100) (vs := (mixL (shL j2) y1 i).map vI) X (Or.inl ⟨rfl, rfl⟩) (dk rfl) (hup_self _ _ _) (inA_nI (by omega) (IA_get (mix_get hx))) ?_
            repeat refine fst1_ok X (dk rfl) rfl ?_
            refine sti_ok X (dk rfl) (hup_self _ _ _) (by rw [lm]; omega) (by rw [lm]; omega) ?_
            rw [hup_hup, nI_add, rem8 (show x + j2 < 100 by omega), show Value.int (nI ((x + j2) % 8)) = vI (shL j2 x) by unfold shL; rw [if_pos hx10]; rfl, ← List.map_set, mix_set hx]
            exact go9 _ rfl
      iterate 3 refine fst1_ok X (dk rfl) rfl ?_
      exact loop _ 0 rfl (Nat.zero_le _) _ rfl
  have mid1 : ∀ t1 : Bool, (t1 = false → inN 6 x1) → (t1 = true → ¬ (inN 6 x1)) → WR p la e (rmD 2 1 16) s m args below meth c D cA B0 5 (refR o S A kn (aShift x1 x2 (sl, an, da, dr)) h) 13 (lv_args 0 [.ref o, .int x1, .int x2]) [.int (bI t1), .ref o] h 0 0 := by
    intro t1 ht1 hn1
    have mid2 := fun t2 => mid2 t1 t2 ht1 hn1
    iterate 1 refine fst1_ok X (dk rfl) rfl ?_
    refine isName_ok X E mlX10_99 ⟨Nat.le_of_ble_eq_true rfl, Nat.le_of_ble_eq_true rfl⟩ ⟨Nat.le_of_ble_eq_true rfl, Nat.le_of_ble_eq_true rfl⟩ (Nat.le_of_ble_eq_true rfl) (dk rfl) (fun mid2b0 mid2h0 mid2n0 => ?_)
    cases mid2b0 with
    | false =>
      refine br_ok X (dk rfl) rfl (show ((17 : Nat) : Int) + 7 = ((24 : Nat) : Int) from rfl) (fun q => absurd q bI_f) (fun _ => ?_)
      refine fst1_ok X (dk rfl) rfl ?_
      refine br_ok X (dk rfl) rfl (show ((21 : Nat) : Int) + 4 = ((25 : Nat) : Int) from rfl) (fun _ => ?_) (fun q => absurd trivial q)
      exact mid2 true (fun z => by cases z) (fun _ hh => absurd (hh) (mid2n0 rfl))
    | true =>
      refine br_ok X (dk rfl) rfl (show ((17 : Nat) : Int) + 7 = ((24 : Nat) : Int) from rfl) (fun _ => ?_) (fun q => absurd bI_t q)
      refine fst1_ok X (dk rfl) rfl ?_
      exact mid2 false (fun _ => mid2h0 rfl) (fun z => by cases z)
  iterate 2 refine fst1_ok X (dk rfl) rfl ?_
  refine isSlot_ok X E mlX10_95 ⟨Nat.le_of_ble_eq_true rfl, Nat.le_of_ble_eq_true rfl⟩ ⟨Nat.le_of_ble_eq_true rfl, Nat.le_of_ble_eq_true rfl⟩ (Nat.le_of_ble_eq_true rfl) (dk rfl) (fun mid1b0 mid1h0 mid1n0 => ?_)
  cases mid1b0 with
  | false =>
    refine br_ok X (dk rfl) rfl (show ((5 : Nat) : Int) + 7 = ((12 : Nat) : Int) from rfl) (fun q => absurd q bI_f) (fun _ => ?_)
    refine fst1_ok X (dk rfl) rfl ?_
    refine br_ok X (dk rfl) rfl (show ((9 : Nat) : Int) + 4 = ((13 : Nat) : Int) from rfl) (fun _ => ?_) (fun q => absurd trivial q)
    exact mid1 true (fun z => by cases z) (fun _ hh => absurd (hh) (mid1n0 rfl))
  | true =>
    refine br_ok X (dk rfl) rfl (show ((5 : Nat) : Int) + 7 = ((12 : Nat) : Int) from rfl) (fun _ => ?_) (fun q => absurd bI_t q)
    refine fst1_ok X (dk rfl) rfl ?_
    exact mid1 false (fun _ => mid1h0 rfl) (fun z => by cases z)
set_option maxHeartbeats 4000000 in
theorem RF.c_behind (h : AH) (M : MD h o S A sl an da dr kn th) (x1 x2 x3 : Int32) : CT la D cA B0 pa yX10_behind cX10_behind 9 (some .int) (rmD 5 145 2192) [.ref o, .int x1, .int x2, .int x3] h (refR o S A kn (aBehind x1 x2 x3 (sl, an, da, dr)) h) := by
  refine CT_of (by decide +kernel) (Nat.le_of_ble_eq_true rfl) ?_
  intro p e s m args below meth c X E hr hlk hnm
  have dk : ∀ {pc : Nat} {q : Instr × Nat}, lkd DX10_behind pc = some q → decode cX10_behind pc = .ok q := lkd_ok DX10_behind_ok
  have mid1 : ∀ t1 : Bool, (t1 = false → inN 3 x1 ∧ inN 3 x2 ∧ inN 3 x3) → (t1 = true → ¬ (inN 3 x1 ∧ inN 3 x2 ∧ inN 3 x3)) → WR p la e (rmD 5 145 2192) s m args below meth c D cA B0 9 (refR o S A kn (aBehind x1 x2 x3 (sl, an, da, dr)) h) 27 (lv_args 0 [.ref o, .int x1, .int x2, .int x3]) [.int (bI t1), .ref o] h 0 0 := by
    intro t1 ht1 hn1
    refine thr1_ok X E M ⟨Nat.le_of_ble_eq_true rfl, Nat.le_of_ble_eq_true rfl⟩ ⟨Nat.le_of_ble_eq_true rfl, Nat.le_of_ble_eq_true rfl⟩ (Nat.le_of_ble_eq_true rfl) (dk rfl) (fun h1 M1 F1 => ?_)
    cases hb : t1 with
    | true =>
      have hT1 : ¬ (inN 3 x1 ∧ inN 3 x2 ∧ inN 3 x3) → aBehind x1 x2 x3 (sl, an, da, dr) = ((1, 0), (sl, an, da, dr)) := (fun hn => by
          unfold aBehind
          by_cases q0 : okI 3 x1 = true
          rotate_left
          · exact if_neg q0
          rw [if_pos q0]
          by_cases q1 : okI 3 x2 = true
          rotate_left
          · exact if_neg q1
          rw [if_pos q1]
          by_cases q2 : okI 3 x3 = true
          rotate_left
          · exact if_neg q2
          rw [if_pos q2]
          exact absurd ⟨okI_in (by decide) q0, okI_in (by decide) q1, okI_in (by decide) q2⟩ hn)
      have hE : aBehind x1 x2 x3 (sl, an, da, dr) = ((thI t1 false, 0), (sl, an, da, dr)) := by
        rw [hb]
        exact hT1 (hn1 hb)
      refine br_ok X (dk rfl) rfl (show ((30 : Nat) : Int) + 5 = ((35 : Nat) : Int) from rfl) (fun q => absurd q bI_t) (fun _ => ?_)
      refine fst1_ok X (dk rfl) rfl ?_
      exact reti_ok X hr hlk rfl (dk rfl) (refR_thr M1 F1 hE (by decide +kernel)) (Nat.zero_le _) (Nat.zero_le _)
    | false =>
      refine br_ok X (dk rfl) rfl (show ((30 : Nat) : Int) + 5 = ((35 : Nat) : Int) from rfl) (fun _ => ?_) (fun q => absurd bI_f' q)
      obtain ⟨⟨j1, hj1, rfl⟩, ⟨j2, hj2, rfl⟩, ⟨j3, hj3, rfl⟩⟩ := ht1 hb
      have M1 : MD h1 o S A sl an da dr kn (nI 0) := by
        rw [hb] at M1
        exact M1
      obtain ⟨ss, s1, s2, s3⟩ := M1.slot
      obtain ⟨as, a1, a2, a3⟩ := M1.ans
      obtain ⟨b1, y1, e1, f1, g1, w1, n1⟩ := a3 j1 hj1
      obtain ⟨b2, y2, e2, f2, g2, w2, n2⟩ := a3 j2 hj2
      obtain ⟨b3, y3, e3, f3, g3, w3, n3⟩ := a3 j3 hj3
      repeat refine fst1_ok X (dk rfl) rfl ?_
      refine getf_ok X flX10_16 (dk rfl) M1.obj rfl ?_
      refine fst1_ok X (dk rfl) rfl ?_
      refine lda_ok X (dk rfl) a2 e1 (by omega) ?_
      repeat refine fst1_ok X (dk rfl) rfl ?_
      refine getf_ok X flX10_16 (dk rfl) M1.obj rfl ?_
      refine fst1_ok X (dk rfl) rfl ?_
      refine lda_ok X (dk rfl) a2 e2 (by omega) ?_
      refine callS_ok (av := [.ref b1, .ref b2]) (r := []) X E (c_withBehind h1 g1 g2 w1 w2) lkX10_withBehind mlX10_149 lsX10_withBehind ⟨Nat.le_of_ble_eq_true rfl, Nat.le_of_ble_eq_true rfl⟩ ⟨Nat.le_of_ble_eq_true rfl, Nat.le_of_ble_eq_true rfl⟩ (Nat.le_of_ble_eq_true rfl) (dk rfl) ?_
      rintro v h2 ⟨N, rfl, hN, hBN, XN, nN⟩
      have hNS : N ≠ S := fun z => by rw [z, s2] at hN; cases hN
      have M2 := M1.ext XN
      obtain ⟨as1, as2, as3, as4⟩ := nN.row
      have lw : (y1.map (usedL y2)).length = 8 := by rw [List.length_map]; exact w1.1
      have tw : ∀ z ∈ y1.map (usedL y2), TW z ∧ z.length ≤ 256 := by
        intro z hz
        obtain ⟨t, ht, rfl⟩ := List.mem_map.mp hz
        have h5 := w1.2 t ht
        refine ⟨TW.used (fun z hz => (w2.2 z hz).1) (by rw [w2.1]; omega) h5.1, ?_⟩
        have := usedL_len y2 (M := 16) (fun z hz => (w2.2 z hz).2) (by omega) t
        omega
      generalize hrows : y1.map (usedL y2) = rows at nN as1 as2 as3 as4 lw tw
      have loop : ∀ (d i : Nat), d = 8 - i → i ≤ 8 → (∀ u z, u < i → rows[u]? = some z → z.length ≤ 16) → ∀ (l : List (Nat × Value)), lsel l [7, 6, 5, 4, 3, 0] = [(7, vI i), (6, vI 8), (5, .ref N), (4, .ref N), (3, vI j3), (0, .ref o)] → WR p la e (rmD 5 145 2192) s m args below meth c D cA B0 9 (refR o S A kn (aBehind (nI j1) (nI j2) (nI j3) (sl, an, da, dr)) h) 64 l [] h2 137 2184 := by
        intro d
        induction d with
        | zero =>
          intro i hd hi hal l hl
          have hi2 : i = 8 := by omega
          subst hi2
          refine WS.sel [7, 6, 5, 4, 3, 0] hl ?_
          repeat refine fst1_ok X (dk rfl) rfl ?_
          refine br_ok X (dk rfl) rfl (show ((68 : Nat) : Int) + 29 = ((97 : Nat) : Int) from rfl) (fun _ => ?_) (fun c1 => absurd (Int32.le_refl _) c1)
          repeat refine fst1_ok X (dk rfl) rfl ?_
          have oN : AO rows := ⟨lw, fun z hz => ⟨(tw z hz).1, by obtain ⟨u, hu⟩ := List.getElem?_of_mem hz; exact hal u z (by have := (List.getElem?_eq_some_iff.mp hu).1; omega) hu⟩⟩
          refine callV_ok (ci := 12) (T := TX10) (N := 6) (av := [vI j3, .ref N]) (r := []) X E (c_become _ M2 hj3 nN oN hNS) lkX10_become mlX10_145 lmX10_become lpX10_become ⟨Nat.le_of_ble_eq_true rfl, Nat.le_of_ble_eq_true rfl⟩ ⟨Nat.le_of_ble_eq_true rfl, Nat.le_of_ble_eq_true rfl⟩ rfl M2.obj (Nat.le_of_ble_eq_true rfl) (dk rfl) ?_
          rintro v h9 ⟨rfl, I9⟩
          exact reti_ok X hr hlk rfl (dk rfl) (refR_tr ⟨rfl, I9⟩ (F1.trans (Fr.ext XN)) (by unfold aBehind; dsimp only; rw [if_pos (okI_t hj1 (by decide)), if_pos (okI_t hj2 (by decide)), if_pos (okI_t hj3 (by decide)), xI_n (by omega), xI_n (by omega), xI_n (by omega), getD_of f1, getD_of f2]; unfold behL; rw [hrows]; exact becA_short oN _ _)) (Nat.le_of_ble_eq_true rfl) (Nat.le_of_ble_eq_true rfl)
        | succ d ih =>
          intro i hd hi hal l hl
          obtain ⟨c5, z5, i5, i6, i7⟩ := as4 i (by omega)
          have t5 := tw z5 (List.mem_of_getElem? i6)
          have f2v : Value.int (nI i + Int32.ofInt 1) = vI (i + 1) := congrArg Value.int (by rw [nI_1', nI_add])
          refine WS.sel [7, 6, 5, 4, 3, 0] hl ?_
          repeat refine fst1_ok X (dk rfl) rfl ?_
          refine br_ok X (dk rfl) rfl (show ((68 : Nat) : Int) + 29 = ((97 : Nat) : Int) from rfl) (fun c1 => absurd c1 (nI_ge (a := i) (b := 8) (by omega) (by omega))) (fun _ => ?_)
          repeat refine fst1_ok X (dk rfl) rfl ?_
          refine ldr_ok X (dk rfl) as3 i5 (by omega) ?_
          repeat refine fst1_ok X (dk rfl) rfl ?_
          refine alen_ok X (by decide) (dk rfl) i7 ?_
          rw [show (z5.map vI).length = z5.length from List.length_map _]
          repeat refine fst1_ok X (dk rfl) rfl ?_
          refine br_ok X (dk rfl) rfl (show ((83 : Nat) : Int) + 8 = ((91 : Nat) : Int) from rfl) (fun c2 => ?_) (fun c2 => ?_)
          · rw [nI_16] at c2
            have l5 : z5.length ≤ 16 := (nI_leI (by omega) (by omega)).mp c2
            repeat refine fst1_ok X (dk rfl) rfl ?_
            refine br_ok X (dk rfl) rfl (show ((94 : Nat) : Int) + (-30) = ((64 : Nat) : Int) from rfl) (fun _ => ?_) (fun q => absurd trivial q)
            refine WS.sel (l' := [(7, vI (i + 1)), (6, vI 8), (5, .ref N), (4, .ref N), (3, vI j3), (0, .ref o)]) [7, 6, 5, 4, 3, 0] (by rw [← f2v]; rfl) ?_
            refine ih (i + 1) (by omega) (by omega) (fun u z hu hz => ?_) _ rfl
            rcases Nat.lt_or_ge u i with q | q
            · exact hal u z q hz
            · rw [show u = i by omega, i6] at hz; cases hz; exact l5
          · repeat refine fst1_ok X (dk rfl) rfl ?_
            refine no_ok X E M2 ⟨Nat.le_of_ble_eq_true rfl, Nat.le_of_ble_eq_true rfl⟩ ⟨Nat.le_of_ble_eq_true rfl, Nat.le_of_ble_eq_true rfl⟩ (Nat.le_of_ble_eq_true rfl) (dk rfl) (fun h9 M9 F9 => ?_)
            exact reti_ok X hr hlk rfl (dk rfl) (refR_ok M9 ((F1.trans (Fr.ext XN)).trans F9) (by unfold aBehind; dsimp only; rw [if_pos (okI_t hj1 (by decide)), if_pos (okI_t hj2 (by decide)), if_pos (okI_t hj3 (by decide)), xI_n (by omega), xI_n (by omega), xI_n (by omega), getD_of f1, getD_of f2]; unfold behL; rw [hrows]; exact if_pos (List.any_eq_true.mpr ⟨z5, List.mem_of_getElem? i6, decide_eq_true (by rw [nI_16] at c2; rcases Nat.lt_or_ge 16 z5.length with z | z; exact z; exact absurd ((nI_leI (by omega) (by omega)).mpr z) c2)⟩))) (Nat.le_of_ble_eq_true rfl) (Nat.le_of_ble_eq_true rfl)
      iterate 4 refine fst1_ok X (dk rfl) rfl ?_
      refine alen_ok X (by decide) (dk rfl) as3 ?_
      rw [show (as1.map Value.ref).length = 8 by rw [List.length_map]; omega]
      iterate 3 refine fst1_ok X (dk rfl) rfl ?_
      exact loop 8 0 rfl (Nat.zero_le _) (fun u z hu _ => absurd hu (Nat.not_lt_zero _)) _ rfl
  iterate 2 refine fst1_ok X (dk rfl) rfl ?_
  refine isAnswer_ok X E mlX10_135 ⟨Nat.le_of_ble_eq_true rfl, Nat.le_of_ble_eq_true rfl⟩ ⟨Nat.le_of_ble_eq_true rfl, Nat.le_of_ble_eq_true rfl⟩ (Nat.le_of_ble_eq_true rfl) (dk rfl) (fun mid1b0 mid1h0 mid1n0 => ?_)
  cases mid1b0 with
  | false =>
    refine br_ok X (dk rfl) rfl (show ((5 : Nat) : Int) + 17 = ((22 : Nat) : Int) from rfl) (fun _ => ?_) (fun q => absurd bI_f' q)
    refine fst1_ok X (dk rfl) rfl ?_
    refine br_ok X (dk rfl) rfl (show ((23 : Nat) : Int) + 4 = ((27 : Nat) : Int) from rfl) (fun _ => ?_) (fun q => absurd trivial q)
    exact mid1 true (fun z => by cases z) (fun _ hh => absurd (hh.1) (mid1n0 rfl))
  | true =>
    refine br_ok X (dk rfl) rfl (show ((5 : Nat) : Int) + 17 = ((22 : Nat) : Int) from rfl) (fun q => absurd q bI_t) (fun _ => ?_)
    iterate 1 refine fst1_ok X (dk rfl) rfl ?_
    refine isAnswer_ok X E mlX10_135 ⟨Nat.le_of_ble_eq_true rfl, Nat.le_of_ble_eq_true rfl⟩ ⟨Nat.le_of_ble_eq_true rfl, Nat.le_of_ble_eq_true rfl⟩ (Nat.le_of_ble_eq_true rfl) (dk rfl) (fun mid1b1 mid1h1 mid1n1 => ?_)
    cases mid1b1 with
    | false =>
      refine br_ok X (dk rfl) rfl (show ((12 : Nat) : Int) + 10 = ((22 : Nat) : Int) from rfl) (fun _ => ?_) (fun q => absurd bI_f' q)
      refine fst1_ok X (dk rfl) rfl ?_
      refine br_ok X (dk rfl) rfl (show ((23 : Nat) : Int) + 4 = ((27 : Nat) : Int) from rfl) (fun _ => ?_) (fun q => absurd trivial q)
      exact mid1 true (fun z => by cases z) (fun _ hh => absurd (hh.2.1) (mid1n1 rfl))
    | true =>
      refine br_ok X (dk rfl) rfl (show ((12 : Nat) : Int) + 10 = ((22 : Nat) : Int) from rfl) (fun q => absurd q bI_t) (fun _ => ?_)
      iterate 1 refine fst1_ok X (dk rfl) rfl ?_
      refine isAnswer_ok X E mlX10_135 ⟨Nat.le_of_ble_eq_true rfl, Nat.le_of_ble_eq_true rfl⟩ ⟨Nat.le_of_ble_eq_true rfl, Nat.le_of_ble_eq_true rfl⟩ (Nat.le_of_ble_eq_true rfl) (dk rfl) (fun mid1b2 mid1h2 mid1n2 => ?_)
      cases mid1b2 with
      | false =>
        refine br_ok X (dk rfl) rfl (show ((19 : Nat) : Int) + 7 = ((26 : Nat) : Int) from rfl) (fun q => absurd q bI_f) (fun _ => ?_)
        refine fst1_ok X (dk rfl) rfl ?_
        refine br_ok X (dk rfl) rfl (show ((23 : Nat) : Int) + 4 = ((27 : Nat) : Int) from rfl) (fun _ => ?_) (fun q => absurd trivial q)
        exact mid1 true (fun z => by cases z) (fun _ hh => absurd (hh.2.2) (mid1n2 rfl))
      | true =>
        refine br_ok X (dk rfl) rfl (show ((19 : Nat) : Int) + 7 = ((26 : Nat) : Int) from rfl) (fun _ => ?_) (fun q => absurd bI_t q)
        refine fst1_ok X (dk rfl) rfl ?_
        exact mid1 false (fun _ => ⟨mid1h0 rfl, mid1h1 rfl, mid1h2 rfl⟩) (fun z => by cases z)
set_option maxHeartbeats 8000000 in
theorem RF.c_often (h : AH) {a : Nat} {xs : List Nat} {yy : Nat} (hyy : yy < 2 ^ 20) (hx : ∀ x ∈ xs, x < 2 ^ 20) (ha : h a = some (IA xs)) (hn : xs.length < 2 ^ 9) : CT la D cA B0 pa yX10_often cX10_often 7 (some .int) (rmD 0 0 0) [.ref a, vI yy] h (fun v h' => v = some (vI (oftenN xs yy)) ∧ h' = h) := by
  refine CT_of (by decide +kernel) (Nat.le_of_ble_eq_true rfl) ?_
  intro p e s m args below meth c X E hr hlk hnm
  have dk : ∀ {pc : Nat} {q : Instr × Nat}, lkd DX10_often pc = some q → decode cX10_often pc = .ok q := lkd_ok DX10_often_ok
  have la' : (xs.map vI).length = xs.length := List.length_map _
  repeat refine fst1_ok X (dk rfl) rfl ?_
  refine alen_ok X (by decide) (dk rfl) ha ?_
  rw [la']
  have loop : ∀ (d j : Nat), d = xs.length - j → j ≤ xs.length → ∀ (z : Int32) (l : List (Nat × Value)), z = nI (oftenN (xs.take j) yy) → lsel l [5, 4, 3, 2, 0, 1] = [(5, vI j), (4, vI xs.length), (3, .ref a), (2, .int z), (0, .ref a), (1, vI yy)] → WR p la e (rmD 0 0 0) s m args below meth c D cA B0 7 (fun v h' => v = some (vI (oftenN xs yy)) ∧ h' = h) 11 l [] h 0 0 := by
    intro d
    induction d with
    | zero =>
      intro j hd hj z l ez hl
      have hj2 : j = xs.length := by omega
      subst hj2
      refine WS.sel [5, 4, 3, 2, 0, 1] hl ?_
      repeat refine fst1_ok X (dk rfl) rfl ?_
      refine br_ok X (dk rfl) rfl (show ((15 : Nat) : Int) + 29 = ((44 : Nat) : Int) from rfl) (fun c1 => ?_) (fun c1 => absurd (Int32.le_refl _) c1)
      repeat refine fst1_ok X (dk rfl) rfl ?_
      exact reti_ok X hr hlk rfl (dk rfl) ⟨by rw [ez, List.take_length]; rfl, rfl⟩ (Nat.le_refl _) (Nat.le_refl _)
    | succ d ih =>
      intro j hd hj z l ez hl
      obtain ⟨x, hx1⟩ : ∃ x, xs[j]? = some x := ⟨xs[j]'(by omega), by simp⟩
      refine WS.sel [5, 4, 3, 2, 0, 1] hl ?_
      repeat refine fst1_ok X (dk rfl) rfl ?_
      refine br_ok X (dk rfl) rfl (show ((15 : Nat) : Int) + 29 = ((44 : Nat) : Int) from rfl) (fun c1 => absurd c1 (nI_ge (by omega) (by omega))) (fun c1 => ?_)
      repeat refine fst1_ok X (dk rfl) rfl ?_
      refine ald_ok X (Or.inl ⟨rfl, rfl⟩) (dk rfl) ha (inA_nI (by omega) (IA_get hx1)) ?_
      have f2 : Value.int (nI j + Int32.ofInt 1) = vI (j + 1) := congrArg Value.int (by rw [nI_1', nI_add])
      have back : ∀ (w : Int32) (l : List (Nat × Value)), z + w = nI (oftenN (xs.take (j + 1)) yy) → lsel l [5, 4, 3, 0, 1] = [(5, vI j), (4, vI xs.length), (3, .ref a), (0, .ref a), (1, vI yy)] → WR p la e (rmD 0 0 0) s m args below meth c D cA B0 7 (fun v h' => v = some (vI (oftenN xs yy)) ∧ h' = h) 36 l [.int w, .int z] h 0 0 := by
        intro w l ew hl
        refine WS.sel [5, 4, 3, 0, 1] hl ?_
        repeat refine fst1_ok X (dk rfl) rfl ?_
        refine br_ok X (dk rfl) rfl (show ((41 : Nat) : Int) + (-30) = ((11 : Nat) : Int) from rfl) (fun _ => ?_) (fun q => absurd trivial q)
        refine WS.sel (l' := [(5, vI (j + 1)), (4, vI xs.length), (3, .ref a), (2, .int (z + w)), (0, .ref a), (1, vI yy)]) [5, 4, 3, 2, 0, 1] (by rw [← f2]; rfl) ?_
        exact ih (j + 1) (by omega) (by omega) _ _ ew rfl
      repeat refine fst1_ok X (dk rfl) rfl ?_
      refine br_ok X (dk rfl) rfl (show ((28 : Nat) : Int) + 7 = ((35 : Nat) : Int) from rfl) (fun c2 => ?_) (fun c2 => ?_)
      · refine fst1_ok X (dk rfl) rfl ?_
        exact back _ _ (by rw [ez, oft_succ hx1, if_neg (fun q => c2 (by rw [q])), nI_0', nI_add, Nat.add_zero]) rfl
      · refine fst1_ok X (dk rfl) rfl ?_
        refine br_ok X (dk rfl) rfl (show ((32 : Nat) : Int) + 4 = ((36 : Nat) : Int) from rfl) (fun _ => ?_) (fun q => absurd trivial q)
        exact back _ _ (by rw [ez, oft_succ hx1, if_pos (nI_inj (by have := hx x (List.mem_of_getElem? hx1); omega) (by omega) (Decidable.not_not.mp c2)), nI_1', nI_add]) rfl
  iterate 3 refine fst1_ok X (dk rfl) rfl ?_
  exact loop _ 0 rfl (Nat.zero_le _) _ _ nI_0' rfl
set_option maxHeartbeats 4000000 in
theorem RF.c_put (h : AH) (M : MD h o S A sl an da dr kn th) (x1 x2 x3 : Int32) : CT la D cA B0 pa yX10_put cX10_put 7 (some .int) (rmD 2 30 300) [.ref o, .int x1, .int x2, .int x3] h (refR o S A kn (aPut x1 x2 x3 (sl, an, da, dr)) h) := by
  refine CT_of (by decide +kernel) (Nat.le_of_ble_eq_true rfl) ?_
  intro p e s m args below meth c X E hr hlk hnm
  have dk : ∀ {pc : Nat} {q : Instr × Nat}, lkd DX10_put pc = some q → decode cX10_put pc = .ok q := lkd_ok DX10_put_ok
  have mid2 : ∀ t1 t2 : Bool, (t1 = false → inN 6 x1 ∧ inN 6 x3) → (t1 = true → ¬ (inN 6 x1 ∧ inN 6 x3)) → (t2 = false → inN 8 x2) → (t2 = true → ¬ (inN 8 x2)) → WR p la e (rmD 2 30 300) s m args below meth c D cA B0 7 (refR o S A kn (aPut x1 x2 x3 (sl, an, da, dr)) h) 32 (lv_args 0 [.ref o, .int x1, .int x2, .int x3]) [.int (bI t2), .int (bI t1), .ref o] h 0 0 := by
    intro t1 t2 ht1 hn1 ht2 hn2
    refine thr2_ok X E M ⟨Nat.le_of_ble_eq_true rfl, Nat.le_of_ble_eq_true rfl⟩ ⟨Nat.le_of_ble_eq_true rfl, Nat.le_of_ble_eq_true rfl⟩ (Nat.le_of_ble_eq_true rfl) (dk rfl) (fun h1 M1 F1 => ?_)
    cases hb : (t1 || t2) with
    | true =>
      have hT1 : ¬ (inN 6 x1 ∧ inN 6 x3) → aPut x1 x2 x3 (sl, an, da, dr) = ((1, 0), (sl, an, da, dr)) := (fun hn => by
          unfold aPut
          by_cases q0 : okI 6 x1 = true
          rotate_left
          · exact if_neg q0
          rw [if_pos q0]
          by_cases q1 : okI 6 x3 = true
          rotate_left
          · exact if_neg q1
          rw [if_pos q1]
          exact absurd ⟨okI_in (by decide) q0, okI_in (by decide) q1⟩ hn)
      have hT2 : (inN 6 x1 ∧ inN 6 x3) → ¬ (inN 8 x2) → aPut x1 x2 x3 (sl, an, da, dr) = ((2, 0), (sl, an, da, dr)) := (fun hp hq => by
          unfold aPut
          rw [if_pos (okI_of (by decide) (hp.1)), if_pos (okI_of (by decide) (hp.2)), if_neg (by rw [okI_f hq]; decide)])
      have hE : aPut x1 x2 x3 (sl, an, da, dr) = ((thI t1 t2, 0), (sl, an, da, dr)) := by
        cases t1 with
        | true => exact hT1 (hn1 rfl)
        | false =>
          cases t2 with
          | true => exact hT2 (ht1 rfl) (hn2 rfl)
          | false => cases hb
      refine br_ok X (dk rfl) rfl (show ((35 : Nat) : Int) + 5 = ((40 : Nat) : Int) from rfl) (fun q => absurd q bI_t) (fun _ => ?_)
      refine fst1_ok X (dk rfl) rfl ?_
      exact reti_ok X hr hlk rfl (dk rfl) (refR_thr M1 F1 hE (by decide +kernel)) (Nat.zero_le _) (Nat.zero_le _)
    | false =>
      refine br_ok X (dk rfl) rfl (show ((35 : Nat) : Int) + 5 = ((40 : Nat) : Int) from rfl) (fun _ => ?_) (fun q => absurd bI_f' q)
      obtain ⟨hb1, hb2⟩ := Bool.or_eq_false_iff.mp hb
      obtain ⟨⟨j1, hj1, rfl⟩, ⟨j3, hj3, rfl⟩⟩ := ht1 hb1
      obtain ⟨j2, hj2, rfl⟩ := ht2 hb2
      have th0 : thI t1 t2 = 0 := by
        cases t1 with
        | true => cases hb
        | false =>
          cases t2 with
          | true => cases hb
          | false => rfl
      rw [th0] at M1
      obtain ⟨ss, s1, s2, s3⟩ := M1.slot
      obtain ⟨as, a1, a2, a3⟩ := M1.ans
      obtain ⟨b1, y1, e1, f1, g1, w1, n1⟩ := s3 j1 hj1
      have ly1 : (y1.map vI).length = y1.length := List.length_map _
      obtain ⟨b3, y3, e3, f3, g3, w3, n3⟩ := s3 j3 hj3
      have ly3 : (y3.map vI).length = y3.length := List.length_map _
      repeat refine fst1_ok X (dk rfl) rfl ?_
      refine getf_ok X flX10_11 (dk rfl) M1.obj rfl ?_
      refine fst1_ok X (dk rfl) rfl ?_
      refine ldr_ok X (dk rfl) s2 e1 (by omega) ?_
      repeat refine fst1_ok X (dk rfl) rfl ?_
      refine callS_ok (av := [.ref b1, vI j2]) (r := []) X E (RF.c_often h1 (yy := j2) (by omega) (fun x hx => by have := w1.lt x hx; omega) g1 (by omega)) lkX10_often mlX10_117 lsX10_often ⟨Nat.le_of_ble_eq_true rfl, Nat.le_of_ble_eq_true rfl⟩ ⟨Nat.le_of_ble_eq_true rfl, Nat.le_of_ble_eq_true rfl⟩ (Nat.le_of_ble_eq_true rfl) (dk rfl) ?_
      rintro v h2 ⟨rfl, rfl⟩
      repeat refine fst1_ok X (dk rfl) rfl ?_
      refine callS_ok (av := []) (r := []) X E (c_none h2) lkX10_none mlX10_24 lsX10_none ⟨Nat.le_of_ble_eq_true rfl, Nat.le_of_ble_eq_true rfl⟩ ⟨Nat.le_of_ble_eq_true rfl, Nat.le_of_ble_eq_true rfl⟩ (Nat.le_of_ble_eq_true rfl) (dk rfl) ?_
      rintro v h3 ⟨N, rfl, hN, hBN, XN, nN⟩
      repeat refine fst1_ok X (dk rfl) rfl ?_
      have M2 := M1.ext XN
      obtain ⟨ns, k1, k2, k3⟩ := nN
      have kl : ns.length = 8 := k1
      refine getf_ok X flX10_11 (dk rfl) M2.obj rfl ?_
      refine fst1_ok X (dk rfl) rfl ?_
      refine ldr_ok X (dk rfl) (XN _ _ s2) e3 (by omega) ?_
      refine str_ok X (dk rfl) k2 (XN _ _ g3) (by rw [List.length_map]; omega) (by rw [List.length_map]; omega) ?_
      have XA : Ext h2 (hup h3 N (105, (ns.map Value.ref).set j2 (.ref b3))) := XN.set hN _
      obtain ⟨vs0, p1, p2, nA⟩ := AnsPut ⟨ns, k1, k2, k3⟩ hj2 (XN _ _ g3) rfl
      cases k2.symm.trans p1
      have oA := AO_none.set (k := j2) ⟨w3, n3⟩
      generalize hrows : ([[0], [1], [2], [3], [4], [5], [6], [7]] : List (List Nat)).set j2 y3 = rows at nA oA
      have M3 := M1.ext XA
      repeat refine fst1_ok X (dk rfl) rfl ?_
      refine getf_ok X flX10_11 (dk rfl) M3.obj rfl ?_
      refine fst1_ok X (dk rfl) rfl ?_
      refine ldr_ok X (dk rfl) (XA _ _ s2) e1 (by omega) ?_
      have ul : (usedL rows y1).length ≤ 256 := by have := usedL_len rows (M := 16) (fun z hz => (oA.2 z hz).2) (by omega) y1; omega
      refine callS_ok (av := [.ref N, .ref b1]) (r := []) X E (c_used _ nA (XA _ _ g1) (by omega) (by rw [oA.1]; omega) w1.lt (fun z hz hz10 => by rw [oA.1]; rcases w1.2 z hz with q | q <;> omega) (by omega)) lkX10_used mlX10_120 lsX10_used ⟨Nat.le_of_ble_eq_true rfl, Nat.le_of_ble_eq_true rfl⟩ ⟨by show 9 + (1 + y1.length) ≤ 30; omega, by show 16 + ((usedL rows y1).length + y1.length) ≤ 300; omega⟩ (Nat.le_of_ble_eq_true rfl) (dk rfl) ?_
      rintro v h4 ⟨q, rfl, hq, hBq, XQ, hQ⟩
      have M4 := M3.ext XQ
      have XX := XA.trans XQ
      have tU := TW.used (rows := rows) (fun z hz => (oA.2 z hz).1) (by rw [oA.1]; omega) w1
      have lq : ((usedL rows y1).map vI).length = (usedL rows y1).length := List.length_map _
      refine WS.widen (k' := 30) (n' := 300) (by show 9 + (1 + y1.length) ≤ 30; omega) (by show 16 + ((usedL rows y1).length + y1.length) ≤ 300; omega) ?_
      repeat refine fst1_ok X (dk rfl) rfl ?_
      refine alen_ok X (by decide) (dk rfl) hQ ?_
      rw [lq]
      repeat refine fst1_ok X (dk rfl) rfl ?_
      refine br_ok X (dk rfl) rfl (show ((85 : Nat) : Int) + 8 = ((93 : Nat) : Int) from rfl) (fun c1 => ?_) (fun c1 => ?_)
      · rw [nI_16] at c1
        have hl16 : (usedL rows y1).length ≤ 16 := (nI_leI (by omega) (by omega)).mp c1
        repeat refine fst1_ok X (dk rfl) rfl ?_
        refine getf_ok X flX10_11 (dk rfl) M4.obj rfl ?_
        repeat refine fst1_ok X (dk rfl) rfl ?_
        obtain ⟨vs, v1, v2, M5⟩ := M4.setS hj1 hQ ⟨tU, hl16⟩
        refine str_ok X (dk rfl) v1 hQ (by omega) (by omega) ?_
        repeat refine fst1_ok X (dk rfl) rfl ?_
        refine done_ok X E M5 ⟨Nat.le_of_ble_eq_true rfl, Nat.le_of_ble_eq_true rfl⟩ ⟨Nat.le_of_ble_eq_true rfl, Nat.le_of_ble_eq_true rfl⟩ (Nat.le_of_ble_eq_true rfl) (dk rfl) (fun h9 M9 F9 => ?_)
        exact reti_ok X hr hlk rfl (dk rfl) (refR_ok M9 ((F1.trans ((Fr.ext XX).set (Or.inr (Or.inl rfl)) _)).trans F9) (by have en : nm8.set j2 y3 = rows := hrows; unfold aPut; dsimp only; rw [if_pos (okI_t hj1 (by decide)), if_pos (okI_t hj3 (by decide)), if_pos (okI_t hj2 (by decide)), xI_n (by omega), xI_n (by omega), xI_n (by omega), getD_of f1, getD_of f3, en]; exact if_neg (by omega))) (Nat.le_of_ble_eq_true rfl) (Nat.le_of_ble_eq_true rfl)
      · repeat refine fst1_ok X (dk rfl) rfl ?_
        refine no_ok X E M4 ⟨Nat.le_of_ble_eq_true rfl, Nat.le_of_ble_eq_true rfl⟩ ⟨Nat.le_of_ble_eq_true rfl, Nat.le_of_ble_eq_true rfl⟩ (Nat.le_of_ble_eq_true rfl) (dk rfl) (fun h9 M9 F9 => ?_)
        exact reti_ok X hr hlk rfl (dk rfl) (refR_ok M9 ((F1.trans (Fr.ext XX)).trans F9) (by have en : nm8.set j2 y3 = rows := hrows; unfold aPut; dsimp only; rw [if_pos (okI_t hj1 (by decide)), if_pos (okI_t hj3 (by decide)), if_pos (okI_t hj2 (by decide)), xI_n (by omega), xI_n (by omega), xI_n (by omega), getD_of f1, getD_of f3, en]; exact if_pos (by rw [nI_16] at c1; rcases Nat.lt_or_ge 16 (usedL rows y1).length with z | z; exact z; exact absurd ((nI_leI (by omega) (by omega)).mpr z) c1))) (Nat.le_of_ble_eq_true rfl) (Nat.le_of_ble_eq_true rfl)
  have mid1 : ∀ t1 : Bool, (t1 = false → inN 6 x1 ∧ inN 6 x3) → (t1 = true → ¬ (inN 6 x1 ∧ inN 6 x3)) → WR p la e (rmD 2 30 300) s m args below meth c D cA B0 7 (refR o S A kn (aPut x1 x2 x3 (sl, an, da, dr)) h) 20 (lv_args 0 [.ref o, .int x1, .int x2, .int x3]) [.int (bI t1), .ref o] h 0 0 := by
    intro t1 ht1 hn1
    have mid2 := fun t2 => mid2 t1 t2 ht1 hn1
    iterate 1 refine fst1_ok X (dk rfl) rfl ?_
    refine isName_ok X E mlX10_99 ⟨Nat.le_of_ble_eq_true rfl, Nat.le_of_ble_eq_true rfl⟩ ⟨Nat.le_of_ble_eq_true rfl, Nat.le_of_ble_eq_true rfl⟩ (Nat.le_of_ble_eq_true rfl) (dk rfl) (fun mid2b0 mid2h0 mid2n0 => ?_)
    cases mid2b0 with
    | false =>
      refine br_ok X (dk rfl) rfl (show ((24 : Nat) : Int) + 7 = ((31 : Nat) : Int) from rfl) (fun q => absurd q bI_f) (fun _ => ?_)
      refine fst1_ok X (dk rfl) rfl ?_
      refine br_ok X (dk rfl) rfl (show ((28 : Nat) : Int) + 4 = ((32 : Nat) : Int) from rfl) (fun _ => ?_) (fun q => absurd trivial q)
      exact mid2 true (fun z => by cases z) (fun _ hh => absurd (hh) (mid2n0 rfl))
    | true =>
      refine br_ok X (dk rfl) rfl (show ((24 : Nat) : Int) + 7 = ((31 : Nat) : Int) from rfl) (fun _ => ?_) (fun q => absurd bI_t q)
      refine fst1_ok X (dk rfl) rfl ?_
      exact mid2 false (fun _ => mid2h0 rfl) (fun z => by cases z)
  iterate 2 refine fst1_ok X (dk rfl) rfl ?_
  refine isSlot_ok X E mlX10_95 ⟨Nat.le_of_ble_eq_true rfl, Nat.le_of_ble_eq_true rfl⟩ ⟨Nat.le_of_ble_eq_true rfl, Nat.le_of_ble_eq_true rfl⟩ (Nat.le_of_ble_eq_true rfl) (dk rfl) (fun mid1b0 mid1h0 mid1n0 => ?_)
  cases mid1b0 with
  | false =>
    refine br_ok X (dk rfl) rfl (show ((5 : Nat) : Int) + 10 = ((15 : Nat) : Int) from rfl) (fun _ => ?_) (fun q => absurd bI_f' q)
    refine fst1_ok X (dk rfl) rfl ?_
    refine br_ok X (dk rfl) rfl (show ((16 : Nat) : Int) + 4 = ((20 : Nat) : Int) from rfl) (fun _ => ?_) (fun q => absurd trivial q)
    exact mid1 true (fun z => by cases z) (fun _ hh => absurd (hh.1) (mid1n0 rfl))
  | true =>
    refine br_ok X (dk rfl) rfl (show ((5 : Nat) : Int) + 10 = ((15 : Nat) : Int) from rfl) (fun q => absurd q bI_t) (fun _ => ?_)
    iterate 1 refine fst1_ok X (dk rfl) rfl ?_
    refine isSlot_ok X E mlX10_95 ⟨Nat.le_of_ble_eq_true rfl, Nat.le_of_ble_eq_true rfl⟩ ⟨Nat.le_of_ble_eq_true rfl, Nat.le_of_ble_eq_true rfl⟩ (Nat.le_of_ble_eq_true rfl) (dk rfl) (fun mid1b1 mid1h1 mid1n1 => ?_)
    cases mid1b1 with
    | false =>
      refine br_ok X (dk rfl) rfl (show ((12 : Nat) : Int) + 7 = ((19 : Nat) : Int) from rfl) (fun q => absurd q bI_f) (fun _ => ?_)
      refine fst1_ok X (dk rfl) rfl ?_
      refine br_ok X (dk rfl) rfl (show ((16 : Nat) : Int) + 4 = ((20 : Nat) : Int) from rfl) (fun _ => ?_) (fun q => absurd trivial q)
      exact mid1 true (fun z => by cases z) (fun _ hh => absurd (hh.2) (mid1n1 rfl))
    | true =>
      refine br_ok X (dk rfl) rfl (show ((12 : Nat) : Int) + 7 = ((19 : Nat) : Int) from rfl) (fun _ => ?_) (fun q => absurd bI_t q)
      refine fst1_ok X (dk rfl) rfl ?_
      exact mid1 false (fun _ => ⟨mid1h0 rfl, mid1h1 rfl⟩) (fun z => by cases z)
set_option maxHeartbeats 4000000 in
theorem RF.c_tell (h : AH) (M : MD h o S A sl an da dr kn th) (x1 x2 x3 : Int32) : CT la D cA B0 pa yX10_tell cX10_tell 7 (some .int) (rmD 3 9 16) [.ref o, .int x1, .int x2, .int x3] h (refR o S A kn (aTell x1 x2 x3 (sl, an, da, dr)) h) := by
  refine CT_of (by decide +kernel) (Nat.le_of_ble_eq_true rfl) ?_
  intro p e s m args below meth c X E hr hlk hnm
  have dk : ∀ {pc : Nat} {q : Instr × Nat}, lkd DX10_tell pc = some q → decode cX10_tell pc = .ok q := lkd_ok DX10_tell_ok
  have mid2 : ∀ t1 t2 : Bool, (t1 = false → inN 3 x1 ∧ inN 6 x3) → (t1 = true → ¬ (inN 3 x1 ∧ inN 6 x3)) → (t2 = false → inN 8 x2) → (t2 = true → ¬ (inN 8 x2)) → WR p la e (rmD 3 9 16) s m args below meth c D cA B0 7 (refR o S A kn (aTell x1 x2 x3 (sl, an, da, dr)) h) 32 (lv_args 0 [.ref o, .int x1, .int x2, .int x3]) [.int (bI t2), .int (bI t1), .ref o] h 0 0 := by
    intro t1 t2 ht1 hn1 ht2 hn2
    refine thr2_ok X E M ⟨Nat.le_of_ble_eq_true rfl, Nat.le_of_ble_eq_true rfl⟩ ⟨Nat.le_of_ble_eq_true rfl, Nat.le_of_ble_eq_true rfl⟩ (Nat.le_of_ble_eq_true rfl) (dk rfl) (fun h1 M1 F1 => ?_)
    cases hb : (t1 || t2) with
    | true =>
      have hT1 : ¬ (inN 3 x1 ∧ inN 6 x3) → aTell x1 x2 x3 (sl, an, da, dr) = ((1, 0), (sl, an, da, dr)) := (fun hn => by
          unfold aTell
          by_cases q0 : okI 3 x1 = true
          rotate_left
          · exact if_neg q0
          rw [if_pos q0]
          by_cases q1 : okI 6 x3 = true
          rotate_left
          · exact if_neg q1
          rw [if_pos q1]
          exact absurd ⟨okI_in (by decide) q0, okI_in (by decide) q1⟩ hn)
      have hT2 : (inN 3 x1 ∧ inN 6 x3) → ¬ (inN 8 x2) → aTell x1 x2 x3 (sl, an, da, dr) = ((2, 0), (sl, an, da, dr)) := (fun hp hq => by
          unfold aTell
          rw [if_pos (okI_of (by decide) (hp.1)), if_pos (okI_of (by decide) (hp.2)), if_neg (by rw [okI_f hq]; decide)])
      have hE : aTell x1 x2 x3 (sl, an, da, dr) = ((thI t1 t2, 0), (sl, an, da, dr)) := by
        cases t1 with
        | true => exact hT1 (hn1 rfl)
        | false =>
          cases t2 with
          | true => exact hT2 (ht1 rfl) (hn2 rfl)
          | false => cases hb
      refine br_ok X (dk rfl) rfl (show ((35 : Nat) : Int) + 5 = ((40 : Nat) : Int) from rfl) (fun q => absurd q bI_t) (fun _ => ?_)
      refine fst1_ok X (dk rfl) rfl ?_
      exact reti_ok X hr hlk rfl (dk rfl) (refR_thr M1 F1 hE (by decide +kernel)) (Nat.zero_le _) (Nat.zero_le _)
    | false =>
      refine br_ok X (dk rfl) rfl (show ((35 : Nat) : Int) + 5 = ((40 : Nat) : Int) from rfl) (fun _ => ?_) (fun q => absurd bI_f' q)
      obtain ⟨hb1, hb2⟩ := Bool.or_eq_false_iff.mp hb
      obtain ⟨⟨j1, hj1, rfl⟩, ⟨j3, hj3, rfl⟩⟩ := ht1 hb1
      obtain ⟨j2, hj2, rfl⟩ := ht2 hb2
      have th0 : thI t1 t2 = 0 := by
        cases t1 with
        | true => cases hb
        | false =>
          cases t2 with
          | true => cases hb
          | false => rfl
      rw [th0] at M1
      obtain ⟨ss, s1, s2, s3⟩ := M1.slot
      obtain ⟨as, a1, a2, a3⟩ := M1.ans
      obtain ⟨b1, y1, e1, f1, g1, w1, n1⟩ := a3 j1 hj1
      obtain ⟨b3, y3, e3, f3, g3, w3, n3⟩ := s3 j3 hj3
      have ly3 : (y3.map vI).length = y3.length := List.length_map _
      repeat refine fst1_ok X (dk rfl) rfl ?_
      refine getf_ok X flX10_16 (dk rfl) M1.obj rfl ?_
      refine fst1_ok X (dk rfl) rfl ?_
      refine lda_ok X (dk rfl) a2 e1 (by omega) ?_
      obtain ⟨as1, as2, as3, as4⟩ := g1.row
      obtain ⟨c2, z2, i2, i3, i4⟩ := as4 j2 (by rw [w1.1]; omega)
      have oz := w1.2 z2 (List.mem_of_getElem? i3)
      refine fst1_ok X (dk rfl) rfl ?_
      refine ldr_ok X (dk rfl) as3 i2 (by rw [as2, w1.1]; decide) ?_
      repeat refine fst1_ok X (dk rfl) rfl ?_
      refine getf_ok X flX10_11 (dk rfl) M1.obj rfl ?_
      refine fst1_ok X (dk rfl) rfl ?_
      refine ldr_ok X (dk rfl) s2 e3 (by omega) ?_
      refine callS_ok (av := [.ref c2, .ref b3]) (r := []) X E (c_same h1 i4 g3 (by omega) (by omega) oz.1.lt w3.lt) lkX10_same mlX10_54 lsX10_same ⟨Nat.le_of_ble_eq_true rfl, Nat.le_of_ble_eq_true rfl⟩ ⟨Nat.le_of_ble_eq_true rfl, Nat.le_of_ble_eq_true rfl⟩ (Nat.le_of_ble_eq_true rfl) (dk rfl) ?_
      rintro v h2 ⟨rfl, rfl⟩
      generalize hz : (if z2 = y3 then (1 : Int32) else 0) = z
      repeat refine fst1_ok X (dk rfl) rfl ?_
      refine callS_ok (av := []) (r := []) X E (c_none h2) lkX10_none mlX10_24 lsX10_none ⟨Nat.le_of_ble_eq_true rfl, Nat.le_of_ble_eq_true rfl⟩ ⟨Nat.le_of_ble_eq_true rfl, Nat.le_of_ble_eq_true rfl⟩ (Nat.le_of_ble_eq_true rfl) (dk rfl) ?_
      rintro v h3 ⟨N, rfl, hN, hBN, XN, nN⟩
      have hNS : N ≠ S := fun z => by rw [z, s2] at hN; cases hN
      have fin9 : ∀ (t : Int32) (l : List (Nat × Value)) (hh : AH), t = (if z2 = y3 then 0 else 1) → MD hh o S A sl (an.set j1 (y1.set j2 y3)) da dr kn (nI 0) → Fr o S A h hh → WR p la e (rmD 3 9 16) s m args below meth c D cA B0 7 (refR o S A kn (aTell (nI j1) (nI j2) (nI j3) (sl, an, da, dr)) h) 128 l [.int t, .ref o] hh 9 16 := by
        intro t l hh et M8 F8
        refine done_ok X E M8 ⟨Nat.le_of_ble_eq_true rfl, Nat.le_of_ble_eq_true rfl⟩ ⟨Nat.le_of_ble_eq_true rfl, Nat.le_of_ble_eq_true rfl⟩ (Nat.le_of_ble_eq_true rfl) (dk rfl) (fun h9 M9 F9 => ?_)
        exact reti_ok X hr hlk rfl (dk rfl) (refR_ok M9 ((F8).trans F9) (by unfold aTell; dsimp only; rw [if_pos (okI_t hj1 (by decide)), if_pos (okI_t hj3 (by decide)), if_pos (okI_t hj2 (by decide)), xI_n (by omega), xI_n (by omega), xI_n (by omega), getD_of f1, getD_of f3, getD_of i3]; rw [et]; first | done | rfl)) (Nat.le_of_ble_eq_true rfl) (Nat.le_of_ble_eq_true rfl)
      have loop : ∀ (d i : Nat), d = 8 - i → i ≤ 8 → ∀ (hh : AH) (rows : List (List Nat)) (l : List (Nat × Value)), lsel l [6, 5, 4, 3, 2, 1, 0] = [(6, vI i), (5, .ref N), (4, .int z), (3, vI j3), (2, vI j2), (1, vI j1), (0, .ref o)] → Ext h2 hh → Ans hh N rows → AO rows → (∀ k, k < i → rows[k]? = (y1.set j2 y3)[k]?) → WR p la e (rmD 3 9 16) s m args below meth c D cA B0 7 (refR o S A kn (aTell (nI j1) (nI j2) (nI j3) (sl, an, da, dr)) h) 67 l [] hh 9 16 := by
        intro d
        induction d with
        | zero =>
          intro i hd hi hh rows l hl XX nR oR hR
          have hi2 : i = 8 := by omega
          subst hi2
          have er : rows = y1.set j2 y3 := List.ext_getElem? (fun k => by
            rcases Nat.lt_or_ge k 8 with c | c
            · exact hR k c
            · rw [List.getElem?_eq_none (by rw [oR.1]; exact c), List.getElem?_eq_none (by rw [List.length_set, w1.1]; exact c)])
          subst er
          have M2 := M1.ext XX
          obtain ⟨vn, kn1⟩ := nR.kind
          obtain ⟨vs, v1, v2, M3⟩ := M2.setA hj1 nR oR hNS
          refine WS.sel [6, 5, 4, 3, 2, 1, 0] hl ?_
          repeat refine fst1_ok X (dk rfl) rfl ?_
          refine br_ok X (dk rfl) rfl (show ((71 : Nat) : Int) + 38 = ((109 : Nat) : Int) from rfl) (fun _ => ?_) (fun c1 => absurd (by decide) c1)
          repeat refine fst1_ok X (dk rfl) rfl ?_
          refine getf_ok X flX10_16 (dk rfl) M2.obj rfl ?_
          repeat refine fst1_ok X (dk rfl) rfl ?_
          refine sta_ok X (dk rfl) v1 kn1 (by omega) (by omega) ?_
          repeat refine fst1_ok X (dk rfl) rfl ?_
          have I9 : Fr o S A h (hup hh A (106, vs.set j1 (.ref N))) := F1.trans ((Fr.ext XX).set (Or.inr (Or.inr rfl)) _)
          by_cases hz0 : z = 0
          · refine br_ok X (dk rfl) rfl (show ((120 : Nat) : Int) + 7 = ((127 : Nat) : Int) from rfl) (fun _ => ?_) (fun q => absurd hz0 q)
            refine fst1_ok X (dk rfl) rfl ?_
            exact fin9 _ _ _ (swz0 hz hz0) M3 I9
          · refine br_ok X (dk rfl) rfl (show ((120 : Nat) : Int) + 7 = ((127 : Nat) : Int) from rfl) (fun q => absurd q hz0) (fun _ => ?_)
            refine fst1_ok X (dk rfl) rfl ?_
            refine br_ok X (dk rfl) rfl (show ((124 : Nat) : Int) + 4 = ((128 : Nat) : Int) from rfl) (fun _ => ?_) (fun q => absurd trivial q)
            exact fin9 _ _ _ (swz1 hz hz0) M3 I9
        | succ d ih =>
          intro i hd hi hh rows l hl XX nR oR hR
          have M2 := M1.ext XX
          have f2 : Value.int (nI i + Int32.ofInt 1) = vI (i + 1) := congrArg Value.int (by rw [nI_1', nI_add])
          have go9 : ∀ (u : Nat) (w : List Nat) (l : List (Nat × Value)), lsel l [6, 5, 4, 3, 2, 1, 0] = [(6, vI i), (5, .ref N), (4, .int z), (3, vI j3), (2, vI j2), (1, vI j1), (0, .ref o)] → hh u = some (IA w) → TW w ∧ w.length ≤ 16 → (y1.set j2 y3)[i]? = some w → WR p la e (rmD 3 9 16) s m args below meth c D cA B0 7 (refR o S A kn (aTell (nI j1) (nI j2) (nI j3) (sl, an, da, dr)) h) 102 l [.ref u, vI i, .ref N] hh 9 16 := by
            intro u w l hl hu hw ew
            obtain ⟨vs0, p1, p2, nA⟩ := AnsPut nR (k := i) (n := 8) (by omega) hu oR.1
            refine WS.sel [6, 5, 4, 3, 2, 1, 0] hl ?_
            refine str_ok X (dk rfl) p1 hu (by omega) (by omega) ?_
            repeat refine fst1_ok X (dk rfl) rfl ?_
            refine br_ok X (dk rfl) rfl (show ((106 : Nat) : Int) + (-39) = ((67 : Nat) : Int) from rfl) (fun _ => ?_) (fun q => absurd trivial q)
            refine WS.sel (l' := [(6, vI (i + 1)), (5, .ref N), (4, .int z), (3, vI j3), (2, vI j2), (1, vI j1), (0, .ref o)]) [6, 5, 4, 3, 2, 1, 0] (by rw [← f2]; rfl) ?_
            exact ih (i + 1) (by omega) (by omega) _ _ _ rfl (XX.set hN _) nA (oR.set hw) (fun k hk => by
              by_cases e9 : k = i
              · rw [e9, List.getElem?_set_self (by rw [oR.1]; omega)]
                exact ew.symm
              · rw [List.getElem?_set_ne (Ne.symm e9)]
                exact hR k (by omega))
          refine WS.sel [6, 5, 4, 3, 2, 1, 0] hl ?_
          repeat refine fst1_ok X (dk rfl) rfl ?_
          refine br_ok X (dk rfl) rfl (show ((71 : Nat) : Int) + 38 = ((109 : Nat) : Int) from rfl) (fun c1 => absurd c1 (nI_ge (a := i) (b := 8) (by omega) (by omega))) (fun _ => ?_)
          repeat refine fst1_ok X (dk rfl) rfl ?_
          refine br_ok X (dk rfl) rfl (show ((81 : Nat) : Int) + 12 = ((93 : Nat) : Int) from rfl) (fun c8 => ?_) (fun c8 => ?_)
          · repeat refine fst1_ok X (dk rfl) rfl ?_
            refine getf_ok X flX10_16 (dk rfl) M2.obj rfl ?_
            refine fst1_ok X (dk rfl) rfl ?_
            refine lda_ok X (dk rfl) (XX _ _ a2) e1 (by omega) ?_
            obtain ⟨c5, z5, i5, i6, i7⟩ := as4 i (by rw [w1.1]; omega)
            refine fst1_ok X (dk rfl) rfl ?_
            refine ldr_ok X (dk rfl) (XX _ _ as3) i5 (by rw [as2, w1.1]; decide) ?_
            exact go9 c5 z5 _ rfl (XX _ _ i7) (w1.2 z5 (List.mem_of_getElem? i6)) (by rw [List.getElem?_set_ne (fun q => c8 (by rw [q]))]; exact i6)
          · repeat refine fst1_ok X (dk rfl) rfl ?_
            refine getf_ok X flX10_11 (dk rfl) M2.obj rfl ?_
            refine fst1_ok X (dk rfl) rfl ?_
            refine ldr_ok X (dk rfl) (XX _ _ s2) e3 (by omega) ?_
            refine br_ok X (dk rfl) rfl (show ((90 : Nat) : Int) + 12 = ((102 : Nat) : Int) from rfl) (fun _ => ?_) (fun q => absurd trivial q)
            exact go9 b3 y3 _ rfl (XX _ _ g3) ⟨w3, n3⟩ (by rw [show i = j2 from nI_inj (by omega) (by omega) (Decidable.not_not.mp c8), List.getElem?_set_self (by rw [w1.1]; exact hj2)])
      iterate 3 refine fst1_ok X (dk rfl) rfl ?_
      exact loop 8 0 rfl (Nat.zero_le _) _ _ _ rfl XN nN AO_none (fun k hk => absurd hk (Nat.not_lt_zero k))
  have mid1 : ∀ t1 : Bool, (t1 = false → inN 3 x1 ∧ inN 6 x3) → (t1 = true → ¬ (inN 3 x1 ∧ inN 6 x3)) → WR p la e (rmD 3 9 16) s m args below meth c D cA B0 7 (refR o S A kn (aTell x1 x2 x3 (sl, an, da, dr)) h) 20 (lv_args 0 [.ref o, .int x1, .int x2, .int x3]) [.int (bI t1), .ref o] h 0 0 := by
    intro t1 ht1 hn1
    have mid2 := fun t2 => mid2 t1 t2 ht1 hn1
    iterate 1 refine fst1_ok X (dk rfl) rfl ?_
    refine isName_ok X E mlX10_99 ⟨Nat.le_of_ble_eq_true rfl, Nat.le_of_ble_eq_true rfl⟩ ⟨Nat.le_of_ble_eq_true rfl, Nat.le_of_ble_eq_true rfl⟩ (Nat.le_of_ble_eq_true rfl) (dk rfl) (fun mid2b0 mid2h0 mid2n0 => ?_)
    cases mid2b0 with
    | false =>
      refine br_ok X (dk rfl) rfl (show ((24 : Nat) : Int) + 7 = ((31 : Nat) : Int) from rfl) (fun q => absurd q bI_f) (fun _ => ?_)
      refine fst1_ok X (dk rfl) rfl ?_
      refine br_ok X (dk rfl) rfl (show ((28 : Nat) : Int) + 4 = ((32 : Nat) : Int) from rfl) (fun _ => ?_) (fun q => absurd trivial q)
      exact mid2 true (fun z => by cases z) (fun _ hh => absurd (hh) (mid2n0 rfl))
    | true =>
      refine br_ok X (dk rfl) rfl (show ((24 : Nat) : Int) + 7 = ((31 : Nat) : Int) from rfl) (fun _ => ?_) (fun q => absurd bI_t q)
      refine fst1_ok X (dk rfl) rfl ?_
      exact mid2 false (fun _ => mid2h0 rfl) (fun z => by cases z)
  iterate 2 refine fst1_ok X (dk rfl) rfl ?_
  refine isAnswer_ok X E mlX10_135 ⟨Nat.le_of_ble_eq_true rfl, Nat.le_of_ble_eq_true rfl⟩ ⟨Nat.le_of_ble_eq_true rfl, Nat.le_of_ble_eq_true rfl⟩ (Nat.le_of_ble_eq_true rfl) (dk rfl) (fun mid1b0 mid1h0 mid1n0 => ?_)
  cases mid1b0 with
  | false =>
    refine br_ok X (dk rfl) rfl (show ((5 : Nat) : Int) + 10 = ((15 : Nat) : Int) from rfl) (fun _ => ?_) (fun q => absurd bI_f' q)
    refine fst1_ok X (dk rfl) rfl ?_
    refine br_ok X (dk rfl) rfl (show ((16 : Nat) : Int) + 4 = ((20 : Nat) : Int) from rfl) (fun _ => ?_) (fun q => absurd trivial q)
    exact mid1 true (fun z => by cases z) (fun _ hh => absurd (hh.1) (mid1n0 rfl))
  | true =>
    refine br_ok X (dk rfl) rfl (show ((5 : Nat) : Int) + 10 = ((15 : Nat) : Int) from rfl) (fun q => absurd q bI_t) (fun _ => ?_)
    iterate 1 refine fst1_ok X (dk rfl) rfl ?_
    refine isSlot_ok X E mlX10_95 ⟨Nat.le_of_ble_eq_true rfl, Nat.le_of_ble_eq_true rfl⟩ ⟨Nat.le_of_ble_eq_true rfl, Nat.le_of_ble_eq_true rfl⟩ (Nat.le_of_ble_eq_true rfl) (dk rfl) (fun mid1b1 mid1h1 mid1n1 => ?_)
    cases mid1b1 with
    | false =>
      refine br_ok X (dk rfl) rfl (show ((12 : Nat) : Int) + 7 = ((19 : Nat) : Int) from rfl) (fun q => absurd q bI_f) (fun _ => ?_)
      refine fst1_ok X (dk rfl) rfl ?_
      refine br_ok X (dk rfl) rfl (show ((16 : Nat) : Int) + 4 = ((20 : Nat) : Int) from rfl) (fun _ => ?_) (fun q => absurd trivial q)
      exact mid1 true (fun z => by cases z) (fun _ hh => absurd (hh.2) (mid1n1 rfl))
    | true =>
      refine br_ok X (dk rfl) rfl (show ((12 : Nat) : Int) + 7 = ((19 : Nat) : Int) from rfl) (fun _ => ?_) (fun q => absurd bI_t q)
      refine fst1_ok X (dk rfl) rfl ?_
      exact mid1 false (fun _ => ⟨mid1h0 rfl, mid1h1 rfl⟩) (fun z => by cases z)
set_option maxHeartbeats 4000000 in
theorem RF.c_head (h : AH) (M : MD h o S A sl an da dr kn th) (x1 x2 x3 x4 x5 : Int32) : CT la D cA B0 pa yX10_head cX10_head 9 (some .int) (rmD 2 5 200) [.ref o, .int x1, .int x2, .int x3, .int x4, .int x5] h (refR o S A kn (aHead x1 x2 x3 x4 x5 (sl, an, da, dr)) h) := by
  refine CT_of (by decide +kernel) (Nat.le_of_ble_eq_true rfl) ?_
  intro p e s m args below meth c X E hr hlk hnm
  have dk : ∀ {pc : Nat} {q : Instr × Nat}, lkd DX10_head pc = some q → decode cX10_head pc = .ok q := lkd_ok DX10_head_ok
  have mid2 : ∀ t1 t2 : Bool, (t1 = false → inN 6 x1 ∧ inN 6 x3 ∧ inN 6 x4 ∧ inN 6 x5) → (t1 = true → ¬ (inN 6 x1 ∧ inN 6 x3 ∧ inN 6 x4 ∧ inN 6 x5)) → (t2 = false → inN 8 x2) → (t2 = true → ¬ (inN 8 x2)) → WR p la e (rmD 2 5 200) s m args below meth c D cA B0 9 (refR o S A kn (aHead x1 x2 x3 x4 x5 (sl, an, da, dr)) h) 48 (lv_args 0 [.ref o, .int x1, .int x2, .int x3, .int x4, .int x5]) [.int (bI t2), .int (bI t1), .ref o] h 0 0 := by
    intro t1 t2 ht1 hn1 ht2 hn2
    refine thr2_ok X E M ⟨Nat.le_of_ble_eq_true rfl, Nat.le_of_ble_eq_true rfl⟩ ⟨Nat.le_of_ble_eq_true rfl, Nat.le_of_ble_eq_true rfl⟩ (Nat.le_of_ble_eq_true rfl) (dk rfl) (fun h1 M1 F1 => ?_)
    cases hb : (t1 || t2) with
    | true =>
      have hT1 : ¬ (inN 6 x1 ∧ inN 6 x3 ∧ inN 6 x4 ∧ inN 6 x5) → aHead x1 x2 x3 x4 x5 (sl, an, da, dr) = ((1, 0), (sl, an, da, dr)) := (fun hn => by
          unfold aHead
          by_cases q0 : okI 6 x1 = true
          rotate_left
          · exact if_neg q0
          rw [if_pos q0]
          by_cases q1 : okI 6 x3 = true
          rotate_left
          · exact if_neg q1
          rw [if_pos q1]
          by_cases q2 : okI 6 x4 = true
          rotate_left
          · exact if_neg q2
          rw [if_pos q2]
          by_cases q3 : okI 6 x5 = true
          rotate_left
          · exact if_neg q3
          rw [if_pos q3]
          exact absurd ⟨okI_in (by decide) q0, okI_in (by decide) q1, okI_in (by decide) q2, okI_in (by decide) q3⟩ hn)
      have hT2 : (inN 6 x1 ∧ inN 6 x3 ∧ inN 6 x4 ∧ inN 6 x5) → ¬ (inN 8 x2) → aHead x1 x2 x3 x4 x5 (sl, an, da, dr) = ((2, 0), (sl, an, da, dr)) := (fun hp hq => by
          unfold aHead
          rw [if_pos (okI_of (by decide) (hp.1)), if_pos (okI_of (by decide) (hp.2.1)), if_pos (okI_of (by decide) (hp.2.2.1)), if_pos (okI_of (by decide) (hp.2.2.2)), if_neg (by rw [okI_f hq]; decide)])
      have hE : aHead x1 x2 x3 x4 x5 (sl, an, da, dr) = ((thI t1 t2, 0), (sl, an, da, dr)) := by
        cases t1 with
        | true => exact hT1 (hn1 rfl)
        | false =>
          cases t2 with
          | true => exact hT2 (ht1 rfl) (hn2 rfl)
          | false => cases hb
      refine br_ok X (dk rfl) rfl (show ((51 : Nat) : Int) + 5 = ((56 : Nat) : Int) from rfl) (fun q => absurd q bI_t) (fun _ => ?_)
      refine fst1_ok X (dk rfl) rfl ?_
      exact reti_ok X hr hlk rfl (dk rfl) (refR_thr M1 F1 hE (by decide +kernel)) (Nat.zero_le _) (Nat.zero_le _)
    | false =>
      refine br_ok X (dk rfl) rfl (show ((51 : Nat) : Int) + 5 = ((56 : Nat) : Int) from rfl) (fun _ => ?_) (fun q => absurd bI_f' q)
      obtain ⟨hb1, hb2⟩ := Bool.or_eq_false_iff.mp hb
      obtain ⟨⟨j1, hj1, rfl⟩, ⟨j3, hj3, rfl⟩, ⟨j4, hj4, rfl⟩, ⟨j5, hj5, rfl⟩⟩ := ht1 hb1
      obtain ⟨j2, hj2, rfl⟩ := ht2 hb2
      have th0 : thI t1 t2 = 0 := by
        cases t1 with
        | true => cases hb
        | false =>
          cases t2 with
          | true => cases hb
          | false => rfl
      rw [th0] at M1
      obtain ⟨ss, s1, s2, s3⟩ := M1.slot
      obtain ⟨as, a1, a2, a3⟩ := M1.ans
      obtain ⟨b1, y1, e1, f1, g1, w1, n1⟩ := s3 j1 hj1
      have ly1 : (y1.map vI).length = y1.length := List.length_map _
      obtain ⟨b3, y3, e3, f3, g3, w3, n3⟩ := s3 j3 hj3
      have ly3 : (y3.map vI).length = y3.length := List.length_map _
      obtain ⟨b4, y4, e4, f4, g4, w4, n4⟩ := s3 j4 hj4
      have ly4 : (y4.map vI).length = y4.length := List.length_map _
      obtain ⟨b5, y5, e5, f5, g5, w5, n5⟩ := s3 j5 hj5
      have ly5 : (y5.map vI).length = y5.length := List.length_map _
      refine fst1_ok X (dk rfl) rfl ?_
      refine newI_ok (N := 3) X (by decide) (dk rfl) (by decide) (by decide) (fun F hF hBF => ?_)
      repeat refine fst1_ok X (dk rfl) rfl ?_
      refine sti_ok (j := 0) X (dk rfl) (hup_self _ _ _) (by simp) (by simp) ?_
      rw [hup_hup]
      repeat refine fst1_ok X (dk rfl) rfl ?_
      refine sti_ok (j := 1) X (dk rfl) (hup_self _ _ _) (by simp) (by simp) ?_
      rw [hup_hup]
      repeat refine fst1_ok X (dk rfl) rfl ?_
      refine sti_ok (j := 2) X (dk rfl) (hup_self _ _ _) (by simp) (by simp) ?_
      rw [hup_hup]
      have eF : ((100, (((List.replicate 3 (Value.int 0)).set 0 (.int (nI j3))).set 1 (.int (nI j4))).set 2 (.int (nI j5))) : AC) = IA [j3, j4, j5] := rfl
      rw [eF]
      have XF := Ext.new hF (IA [j3, j4, j5])
      repeat refine fst1_ok X (dk rfl) rfl ?_
      rw [nI_10, nI_add]
      refine callS_ok (av := [vI (10 + j2)]) (r := []) X E (c_row _ (10 + j2)) lkX10_row mlX10_20 lsX10_row ⟨Nat.le_of_ble_eq_true rfl, Nat.le_of_ble_eq_true rfl⟩ ⟨Nat.le_of_ble_eq_true rfl, Nat.le_of_ble_eq_true rfl⟩ (Nat.le_of_ble_eq_true rfl) (dk rfl) ?_
      rintro v h2 ⟨u0, rfl, hu0, hBu0, rfl⟩
      have XR := XF.trans (Ext.new hu0 (IA [10 + j2]))
      have hF2 : hup (hup h1 F (IA [j3, j4, j5])) u0 (IA [10 + j2]) F = some (IA [j3, j4, j5]) := Ext.new hu0 _ _ _ (hup_self _ _ _)
      have p3 : pF (10 + j2) ≤ 3 := by unfold pF; rw [if_neg (by omega)]; omega
      have loop : ∀ (d i : Nat), d = pF (10 + j2) - i → i ≤ pF (10 + j2) → ∀ (hh : AH) (u : Nat) (W : List Nat) (l : List (Nat × Value)), lsel l [8, 7, 6, 2, 1, 0] = [(8, vI i), (7, .ref u), (6, .ref F), (2, vI j2), (1, vI j1), (0, .ref o)] → Ext h1 hh → hh F = some (IA [j3, j4, j5]) → hh u = some (IA W) → W = (10 + j2) :: (([y3, y4, y5] : List (List Nat)).take i).flatten → Wnt W (pF (10 + j2) - i) → W.length ≤ 1 + 16 * i → WR p la e (rmD 2 5 200) s m args below meth c D cA B0 9 (refR o S A kn (aHead (nI j1) (nI j2) (nI j3) (nI j4) (nI j5) (sl, an, da, dr)) h) 87 l [] hh (2 + i) (4 + 64 * i) := by
        intro d
        induction d with
        | zero =>
          intro i hd hi hh u W l hl XX hFh hu eW hW hlen
          have hi2 : i = pF (10 + j2) := by omega
          subst hi2
          have M2 := M1.ext XX
          rw [Nat.sub_self] at hW
          have tW := hW.tw
          refine WS.sel [8, 7, 6, 2, 1, 0] hl ?_
          repeat refine fst1_ok X (dk rfl) rfl ?_
          rw [nI_10, nI_add]
          refine callS_ok (av := [vI (10 + j2)]) (r := [vI (pF (10 + j2))]) X E (c_parts hh (x := 10 + j2) (by omega)) lkX10_parts mlX10_32 lsX10_parts ⟨Nat.le_of_ble_eq_true rfl, Nat.le_of_ble_eq_true rfl⟩ ⟨by show 2 + pF (10 + j2) + 0 ≤ 5; omega, by show 4 + 64 * pF (10 + j2) + 0 ≤ 200; omega⟩ (Nat.le_of_ble_eq_true rfl) (dk rfl) ?_
          rintro v h3 ⟨rfl, rfl⟩
          refine br_ok X (dk rfl) rfl (show ((96 : Nat) : Int) + 26 = ((122 : Nat) : Int) from rfl) (fun _ => ?_) (fun c1 => absurd (Int32.le_refl _) c1)
          repeat refine fst1_ok X (dk rfl) rfl ?_
          refine callV_ok (ci := 12) (T := TX10) (N := 6) (av := [vI j1, .ref u]) (r := []) X E (c_give _ M2 hj1 hu tW (by omega)) lkX10_give mlX10_106 lmX10_give lpX10_give ⟨Nat.le_of_ble_eq_true rfl, Nat.le_of_ble_eq_true rfl⟩ ⟨by show 2 + pF (10 + j2) + 0 + 0 ≤ 5; omega, by show 4 + 64 * pF (10 + j2) + 0 + 0 ≤ 200; omega⟩ rfl M2.obj (Nat.le_of_ble_eq_true rfl) (dk rfl) ?_
          rintro v h9 ⟨rfl, I9⟩
          exact reti_ok X hr hlk rfl (dk rfl) (refR_tr ⟨rfl, I9⟩ (F1.trans (Fr.ext XX)) (by rw [eW]; unfold aHead; dsimp only; rw [if_pos (okI_t hj1 (by decide)), if_pos (okI_t hj3 (by decide)), if_pos (okI_t hj4 (by decide)), if_pos (okI_t hj5 (by decide)), if_pos (okI_t hj2 (by decide)), xI_n (by omega), xI_n (by omega), xI_n (by omega), xI_n (by omega), xI_n (by omega), getD_of f3, getD_of f4, getD_of f5]; rw [Nat.add_comm 10 j2]; first | done | rfl)) (by show 2 + pF (10 + j2) + 0 + 0 ≤ 5; omega) (by show 4 + 64 * pF (10 + j2) + 0 + 0 ≤ 200; omega)
        | succ d ih =>
          intro i hd hi hh u W l hl XX hFh hu eW hW hlen
          have M2 := M1.ext XX
          obtain ⟨jj, q1, q2⟩ := get3 hj3 hj4 hj5 i (by omega)
          obtain ⟨bb, yy, v1, v2, v3, v4, v5⟩ := s3 jj q2
          have f2 : Value.int (nI i + Int32.ofInt 1) = vI (i + 1) := congrArg Value.int (by rw [nI_1', nI_add])
          refine WS.sel [8, 7, 6, 2, 1, 0] hl ?_
          repeat refine fst1_ok X (dk rfl) rfl ?_
          rw [nI_10, nI_add]
          refine callS_ok (av := [vI (10 + j2)]) (r := [vI i]) X E (c_parts hh (x := 10 + j2) (by omega)) lkX10_parts mlX10_32 lsX10_parts ⟨Nat.le_of_ble_eq_true rfl, Nat.le_of_ble_eq_true rfl⟩ ⟨by show 2 + i + 0 ≤ 5; omega, by show 4 + 64 * i + 0 ≤ 200; omega⟩ (Nat.le_of_ble_eq_true rfl) (dk rfl) ?_
          rintro v h3 ⟨rfl, rfl⟩
          refine br_ok X (dk rfl) rfl (show ((96 : Nat) : Int) + 26 = ((122 : Nat) : Int) from rfl) (fun c1 => absurd c1 (nI_ge (by omega) (by omega))) (fun _ => ?_)
          repeat refine fst1_ok X (dk rfl) rfl ?_
          refine getf_ok X flX10_11 (dk rfl) M2.obj rfl ?_
          repeat refine fst1_ok X (dk rfl) rfl ?_
          refine ald_ok (kd := 100) (vs := [j3, j4, j5].map vI) X (Or.inl ⟨rfl, rfl⟩) (dk rfl) hFh (inA_nI (by omega) (IA_get q1)) ?_
          refine ldr_ok X (dk rfl) (XX _ _ s2) v1 (by omega) ?_
          refine callS_ok (av := [.ref u, .ref bb]) (r := []) X E (c_joined _ hu (XX _ _ v3) (by omega) (by omega)) lkX10_joined mlX10_102 lsX10_joined ⟨Nat.le_of_ble_eq_true rfl, Nat.le_of_ble_eq_true rfl⟩ ⟨by show 2 + i + 0 + 1 ≤ 5; omega, by show 4 + 64 * i + 0 + (W.length + yy.length) ≤ 200; omega⟩ (Nat.le_of_ble_eq_true rfl) (dk rfl) ?_
          rintro v h3 ⟨u2, rfl, hu2, hBu2, rfl⟩
          have X2 := Ext.new hu2 (IA (W ++ yy))
          repeat refine fst1_ok X (dk rfl) rfl ?_
          refine br_ok X (dk rfl) rfl (show ((119 : Nat) : Int) + (-32) = ((87 : Nat) : Int) from rfl) (fun _ => ?_) (fun q => absurd trivial q)
          refine WS.widen (k' := 2 + (i + 1)) (n' := 4 + 64 * (i + 1)) (by show 2 + i + 0 + 1 ≤ 2 + (i + 1); omega) (by show 4 + 64 * i + 0 + (W.length + yy.length) ≤ 4 + 64 * (i + 1); omega) ?_
          refine WS.sel (l' := [(8, vI (i + 1)), (7, .ref u2), (6, .ref F), (2, vI j2), (1, vI j1), (0, .ref o)]) [8, 7, 6, 2, 1, 0] (by rw [← f2]; rfl) ?_
          refine ih (i + 1) (by omega) (by omega) _ _ _ _ rfl (XX.trans X2) (X2 _ _ hFh) (hup_self _ _ _) (by rw [eW]; exact hd_more (get3y q1 f3 f4 f5 v2)) ?_ (by rw [List.length_append]; omega)
          rw [show pF (10 + j2) - i = (pF (10 + j2) - (i + 1)) + 1 by omega] at hW
          exact hW.more v4
      iterate 3 refine fst1_ok X (dk rfl) rfl ?_
      exact loop _ 0 rfl (Nat.zero_le _) _ _ _ _ rfl XR hF2 (hup_self _ _ _) rfl (Wnt.head (Or.inr ⟨by omega, by omega⟩)) (by simp)
  have mid1 : ∀ t1 : Bool, (t1 = false → inN 6 x1 ∧ inN 6 x3 ∧ inN 6 x4 ∧ inN 6 x5) → (t1 = true → ¬ (inN 6 x1 ∧ inN 6 x3 ∧ inN 6 x4 ∧ inN 6 x5)) → WR p la e (rmD 2 5 200) s m args below meth c D cA B0 9 (refR o S A kn (aHead x1 x2 x3 x4 x5 (sl, an, da, dr)) h) 36 (lv_args 0 [.ref o, .int x1, .int x2, .int x3, .int x4, .int x5]) [.int (bI t1), .ref o] h 0 0 := by
    intro t1 ht1 hn1
    have mid2 := fun t2 => mid2 t1 t2 ht1 hn1
    iterate 1 refine fst1_ok X (dk rfl) rfl ?_
    refine isName_ok X E mlX10_99 ⟨Nat.le_of_ble_eq_true rfl, Nat.le_of_ble_eq_true rfl⟩ ⟨Nat.le_of_ble_eq_true rfl, Nat.le_of_ble_eq_true rfl⟩ (Nat.le_of_ble_eq_true rfl) (dk rfl) (fun mid2b0 mid2h0 mid2n0 => ?_)
    cases mid2b0 with
    | false =>
      refine br_ok X (dk rfl) rfl (show ((40 : Nat) : Int) + 7 = ((47 : Nat) : Int) from rfl) (fun q => absurd q bI_f) (fun _ => ?_)
      refine fst1_ok X (dk rfl) rfl ?_
      refine br_ok X (dk rfl) rfl (show ((44 : Nat) : Int) + 4 = ((48 : Nat) : Int) from rfl) (fun _ => ?_) (fun q => absurd trivial q)
      exact mid2 true (fun z => by cases z) (fun _ hh => absurd (hh) (mid2n0 rfl))
    | true =>
      refine br_ok X (dk rfl) rfl (show ((40 : Nat) : Int) + 7 = ((47 : Nat) : Int) from rfl) (fun _ => ?_) (fun q => absurd bI_t q)
      refine fst1_ok X (dk rfl) rfl ?_
      exact mid2 false (fun _ => mid2h0 rfl) (fun z => by cases z)
  iterate 2 refine fst1_ok X (dk rfl) rfl ?_
  refine isSlot_ok X E mlX10_95 ⟨Nat.le_of_ble_eq_true rfl, Nat.le_of_ble_eq_true rfl⟩ ⟨Nat.le_of_ble_eq_true rfl, Nat.le_of_ble_eq_true rfl⟩ (Nat.le_of_ble_eq_true rfl) (dk rfl) (fun mid1b0 mid1h0 mid1n0 => ?_)
  cases mid1b0 with
  | false =>
    refine br_ok X (dk rfl) rfl (show ((5 : Nat) : Int) + 26 = ((31 : Nat) : Int) from rfl) (fun _ => ?_) (fun q => absurd bI_f' q)
    refine fst1_ok X (dk rfl) rfl ?_
    refine br_ok X (dk rfl) rfl (show ((32 : Nat) : Int) + 4 = ((36 : Nat) : Int) from rfl) (fun _ => ?_) (fun q => absurd trivial q)
    exact mid1 true (fun z => by cases z) (fun _ hh => absurd (hh.1) (mid1n0 rfl))
  | true =>
    refine br_ok X (dk rfl) rfl (show ((5 : Nat) : Int) + 26 = ((31 : Nat) : Int) from rfl) (fun q => absurd q bI_t) (fun _ => ?_)
    iterate 1 refine fst1_ok X (dk rfl) rfl ?_
    refine isSlot_ok X E mlX10_95 ⟨Nat.le_of_ble_eq_true rfl, Nat.le_of_ble_eq_true rfl⟩ ⟨Nat.le_of_ble_eq_true rfl, Nat.le_of_ble_eq_true rfl⟩ (Nat.le_of_ble_eq_true rfl) (dk rfl) (fun mid1b1 mid1h1 mid1n1 => ?_)
    cases mid1b1 with
    | false =>
      refine br_ok X (dk rfl) rfl (show ((12 : Nat) : Int) + 19 = ((31 : Nat) : Int) from rfl) (fun _ => ?_) (fun q => absurd bI_f' q)
      refine fst1_ok X (dk rfl) rfl ?_
      refine br_ok X (dk rfl) rfl (show ((32 : Nat) : Int) + 4 = ((36 : Nat) : Int) from rfl) (fun _ => ?_) (fun q => absurd trivial q)
      exact mid1 true (fun z => by cases z) (fun _ hh => absurd (hh.2.1) (mid1n1 rfl))
    | true =>
      refine br_ok X (dk rfl) rfl (show ((12 : Nat) : Int) + 19 = ((31 : Nat) : Int) from rfl) (fun q => absurd q bI_t) (fun _ => ?_)
      iterate 1 refine fst1_ok X (dk rfl) rfl ?_
      refine isSlot_ok X E mlX10_95 ⟨Nat.le_of_ble_eq_true rfl, Nat.le_of_ble_eq_true rfl⟩ ⟨Nat.le_of_ble_eq_true rfl, Nat.le_of_ble_eq_true rfl⟩ (Nat.le_of_ble_eq_true rfl) (dk rfl) (fun mid1b2 mid1h2 mid1n2 => ?_)
      cases mid1b2 with
      | false =>
        refine br_ok X (dk rfl) rfl (show ((20 : Nat) : Int) + 11 = ((31 : Nat) : Int) from rfl) (fun _ => ?_) (fun q => absurd bI_f' q)
        refine fst1_ok X (dk rfl) rfl ?_
        refine br_ok X (dk rfl) rfl (show ((32 : Nat) : Int) + 4 = ((36 : Nat) : Int) from rfl) (fun _ => ?_) (fun q => absurd trivial q)
        exact mid1 true (fun z => by cases z) (fun _ hh => absurd (hh.2.2.1) (mid1n2 rfl))
      | true =>
        refine br_ok X (dk rfl) rfl (show ((20 : Nat) : Int) + 11 = ((31 : Nat) : Int) from rfl) (fun q => absurd q bI_t) (fun _ => ?_)
        iterate 1 refine fst1_ok X (dk rfl) rfl ?_
        refine isSlot_ok X E mlX10_95 ⟨Nat.le_of_ble_eq_true rfl, Nat.le_of_ble_eq_true rfl⟩ ⟨Nat.le_of_ble_eq_true rfl, Nat.le_of_ble_eq_true rfl⟩ (Nat.le_of_ble_eq_true rfl) (dk rfl) (fun mid1b3 mid1h3 mid1n3 => ?_)
        cases mid1b3 with
        | false =>
          refine br_ok X (dk rfl) rfl (show ((28 : Nat) : Int) + 7 = ((35 : Nat) : Int) from rfl) (fun q => absurd q bI_f) (fun _ => ?_)
          refine fst1_ok X (dk rfl) rfl ?_
          refine br_ok X (dk rfl) rfl (show ((32 : Nat) : Int) + 4 = ((36 : Nat) : Int) from rfl) (fun _ => ?_) (fun q => absurd trivial q)
          exact mid1 true (fun z => by cases z) (fun _ hh => absurd (hh.2.2.2) (mid1n3 rfl))
        | true =>
          refine br_ok X (dk rfl) rfl (show ((28 : Nat) : Int) + 7 = ((35 : Nat) : Int) from rfl) (fun _ => ?_) (fun q => absurd bI_t q)
          refine fst1_ok X (dk rfl) rfl ?_
          exact mid1 false (fun _ => ⟨mid1h0 rfl, mid1h1 rfl, mid1h2 rfl, mid1h3 rfl⟩) (fun z => by cases z)
end E3
