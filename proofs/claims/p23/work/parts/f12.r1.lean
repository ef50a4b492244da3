/-! the reference's questions, exactly (printed by wip/q/genR1.py) -/
theorem ltX_no {ns : List Nat} {x : Int32} (h : ¬ inN ns.length x) : ltX (ns.map nI) x = m9 := by
  unfold ltX
  split
  · rfl
  · rename_i c
    obtain ⟨j, hj, rfl⟩ := nI_of c
    rw [nI_clamp hj, List.getElem?_eq_none (by
      rw [List.length_map]
      rcases Nat.lt_or_ge j ns.length with z | z
      · exact absurd ⟨j, z, rfl⟩ h
      · exact z)]
    rfl
theorem ulN_of {r1 r2 : List (List Nat)} (l1 : r1.length = 8) (l2 : r2.length = 8) {d : Option Nat} (h1 : ∀ i, i < d.getD 8 → r1[i]? = r2[i]?) (h2 : ∀ k, d = some k → k < 8 ∧ r1[k]? ≠ r2[k]?) : ulN r1 r2 = d := by
  have gd : ∀ (r : List (List Nat)) (i : Nat), r.getD i [] = (r[i]?).getD [] := fun r i => List.getD_eq_getElem?_getD
  cases d with
  | none => exact fsF_no (fun i hi => decide_eq_false (fun z => z (by rw [gd, gd, h1 i hi])))
  | some k =>
    obtain ⟨hk, hne⟩ := h2 k rfl
    refine fsF_at hk (fun i hi => decide_eq_false (fun z => z (by rw [gd, gd, h1 i hi]))) (decide_eq_true (fun z => hne ?_))
    rw [gd, gd, List.getElem?_eq_getElem (by omega), List.getElem?_eq_getElem (by omega)] at z
    rw [List.getElem?_eq_getElem (by omega), List.getElem?_eq_getElem (by omega)]
    exact congrArg some z
section R12
variable {la : Launch} {D : va_G} {cA : Nat → ClassId} {B0 pa : Nat} {o S A : Nat} {sl : List (List Nat)} {an : List (List (List Nat))} {da dr kn th : Int32}
set_option maxHeartbeats 4000000 in
theorem RF.x_letter (h : AH) (M : MD h o S A sl an da dr kn th) (x1 x2 : Int32) : CT la D cA B0 pa yX10_letter cX10_letter 3 (some .int) (rmD 2 0 0) [.ref o, .int x1, .int x2] h (refR o S A kn (aLetter x1 x2 (sl, an, da, dr)) h) := by
  refine CT_of (by decide +kernel) (Nat.le_of_ble_eq_true rfl) ?_
  intro p e s m args below meth c X E hr hlk hnm
  have dk : ∀ {pc : Nat} {q : Instr × Nat}, lkd DX10_letter pc = some q → decode cX10_letter pc = .ok q := lkd_ok DX10_letter_ok
  have mid1 : ∀ t1 : Bool, (t1 = false → inN 6 x1) → (t1 = true → ¬ (inN 6 x1)) → WR p la e (rmD 2 0 0) s m args below meth c D cA B0 3 (refR o S A kn (aLetter x1 x2 (sl, an, da, dr)) h) 13 (lv_args 0 [.ref o, .int x1, .int x2]) [.int (bI t1), .ref o] h 0 0 := by
    intro t1 ht1 hn1
    refine thr1_ok X E M ⟨Nat.le_of_ble_eq_true rfl, Nat.le_of_ble_eq_true rfl⟩ ⟨Nat.le_of_ble_eq_true rfl, Nat.le_of_ble_eq_true rfl⟩ (Nat.le_of_ble_eq_true rfl) (dk rfl) (fun h1 M1 F1 => ?_)
    cases hb : t1 with
    | true =>
      have hT1 : ¬ (inN 6 x1) → aLetter x1 x2 (sl, an, da, dr) = ((1, 0), (sl, an, da, dr)) := (fun hn => by
          unfold aLetter
          by_cases q0 : okI 6 x1 = true
          rotate_left
          · exact if_neg q0
          rw [if_pos q0]
          exact absurd (okI_in (by decide) q0) hn)
      have hE : aLetter x1 x2 (sl, an, da, dr) = ((thI t1 false, 0), (sl, an, da, dr)) := by
        rw [hb]
        exact hT1 (hn1 hb)
      refine br_ok X (dk rfl) rfl (show ((16 : Nat) : Int) + 7 = ((23 : Nat) : Int) from rfl) (fun q => absurd q bI_t) (fun _ => ?_)
      refine fst1_ok X (dk rfl) rfl ?_
      refine br_ok X (dk rfl) rfl (show ((20 : Nat) : Int) + 25 = ((45 : Nat) : Int) from rfl) (fun _ => ?_) (fun q => absurd trivial q)
      exact reti_ok X hr hlk rfl (dk rfl) (refR_thr M1 F1 hE (by decide +kernel)) (Nat.zero_le _) (Nat.zero_le _)
    | false =>
      refine br_ok X (dk rfl) rfl (show ((16 : Nat) : Int) + 7 = ((23 : Nat) : Int) from rfl) (fun _ => ?_) (fun q => absurd bI_f' q)
      obtain ⟨j1, hj1, rfl⟩ := ht1 hb
      have M1 : MD h1 o S A sl an da dr kn (nI 0) := by
        rw [hb] at M1
        exact M1
      obtain ⟨ss, s1, s2, s3⟩ := M1.slot
      obtain ⟨as, a1, a2, a3⟩ := M1.ans
      obtain ⟨b1, y1, e1, f1, g1, w1, n1⟩ := s3 j1 hj1
      have ly1 : (y1.map vI).length = y1.length := List.length_map _
      repeat refine fst1_ok X (dk rfl) rfl ?_
      refine callV_ok (ci := 12) (T := TX10) (N := 6) (av := [vI j1, .int x2]) (r := []) X E (c_isPlace h1 M1 hj1 x2) lkX10_isPlace mlX10_113 lmX10_isPlace lpX10_isPlace ⟨Nat.le_of_ble_eq_true rfl, Nat.le_of_ble_eq_true rfl⟩ ⟨Nat.le_of_ble_eq_true rfl, Nat.le_of_ble_eq_true rfl⟩ rfl M1.obj (Nat.le_of_ble_eq_true rfl) (dk rfl) ?_
      rintro v h2 ⟨⟨bp, rfl, hbp, hnp⟩, rfl⟩
      cases bp with
      | false =>
        refine br_ok X (dk rfl) rfl (show ((29 : Nat) : Int) + 14 = ((43 : Nat) : Int) from rfl) (fun _ => ?_) (fun q => absurd bI_f' q)
        refine fst1_ok X (dk rfl) rfl ?_
        exact reti_ok X hr hlk rfl (dk rfl) (refR_ok M1 (F1) (by unfold aLetter; dsimp only; rw [if_pos (okI_t hj1 (by decide)), xI_n (by omega), getD_of f1]; rw [ltX_no (hnp rfl y1 f1)]; first | done | rfl)) (Nat.le_of_ble_eq_true rfl) (Nat.le_of_ble_eq_true rfl)
      | true =>
        refine br_ok X (dk rfl) rfl (show ((29 : Nat) : Int) + 14 = ((43 : Nat) : Int) from rfl) (fun q => absurd q bI_t) (fun _ => ?_)
        obtain ⟨j2, hj2, rfl⟩ := hbp rfl y1 f1
        obtain ⟨x, hx⟩ : ∃ x, y1[j2]? = some x := ⟨y1[j2]'hj2, by simp⟩
        repeat refine fst1_ok X (dk rfl) rfl ?_
        refine getf_ok X flX10_11 (dk rfl) M1.obj rfl ?_
        refine fst1_ok X (dk rfl) rfl ?_
        refine ldr_ok X (dk rfl) s2 e1 (by omega) ?_
        refine fst1_ok X (dk rfl) rfl ?_
        refine ald_ok X (Or.inl ⟨rfl, rfl⟩) (dk rfl) g1 (inA_nI (by omega) (IA_get hx)) ?_
        refine br_ok X (dk rfl) rfl (show ((40 : Nat) : Int) + 5 = ((45 : Nat) : Int) from rfl) (fun _ => ?_) (fun q => absurd trivial q)
        exact reti_ok X hr hlk rfl (dk rfl) (refR_ok M1 (F1) (by unfold aLetter; dsimp only; rw [if_pos (okI_t hj1 (by decide)), xI_n (by omega), getD_of f1]; rw [ltX_at _ (by omega), hx]; first | done | rfl)) (Nat.le_of_ble_eq_true rfl) (Nat.le_of_ble_eq_true rfl)
  iterate 2 refine fst1_ok X (dk rfl) rfl ?_
  refine isSlot_ok X E mlX10_95 ⟨Nat.le_of_ble_eq_true rfl, Nat.le_of_ble_eq_true rfl⟩ ⟨Nat.le_of_ble_eq_true rfl, Nat.le_of_ble_eq_true rfl⟩ (Nat.le_of_ble_eq_true rfl) (dk rfl) (fun mid1b0 mid1h0 mid1n0 => ?_)
  cases mid1b0 with
  | false =>
    refine br_ok X (dk rfl) rfl (show ((5 : Nat) : Int) + 7 = ((12 : Nat) : Int) from rfl) (fun q => absurd q bI_f) (fun _ => ?_)
    refine fst1_ok X (dk rfl) rfl ?_
    refine br_ok X (dk rfl) rfl (show ((9 : Nat) : Int) + 4 = ((13 : Nat) : Int) from rfl) (fun _ => ?_) (fun q => absurd trivial q)
    exact mid1 true (fun z => by cases z) (fun _ hh => absurd (hh) (mid1n0 rfl))
  | true =>
    refine br_ok X (dk rfl) rfl (show ((5 : Nat) : Int) + 7 = ((12 : Nat) : Int) from rfl) (fun _ => ?_) (fun q => absurd bI_t q)
    refine fst1_ok X (dk rfl) rfl ?_
    exact mid1 false (fun _ => mid1h0 rfl) (fun z => by cases z)
set_option maxHeartbeats 4000000 in
theorem RF.x_sizeAt (h : AH) (M : MD h o S A sl an da dr kn th) (x1 x2 : Int32) : CT la D cA B0 pa yX10_sizeAt cX10_sizeAt 3 (some .int) (rmD 2 0 0) [.ref o, .int x1, .int x2] h (refR o S A kn (aSizeAt x1 x2 (sl, an, da, dr)) h) := by
  refine CT_of (by decide +kernel) (Nat.le_of_ble_eq_true rfl) ?_
  intro p e s m args below meth c X E hr hlk hnm
  have dk : ∀ {pc : Nat} {q : Instr × Nat}, lkd DX10_sizeAt pc = some q → decode cX10_sizeAt pc = .ok q := lkd_ok DX10_sizeAt_ok
  have mid1 : ∀ t1 : Bool, (t1 = false → inN 6 x1) → (t1 = true → ¬ (inN 6 x1)) → WR p la e (rmD 2 0 0) s m args below meth c D cA B0 3 (refR o S A kn (aSizeAt x1 x2 (sl, an, da, dr)) h) 13 (lv_args 0 [.ref o, .int x1, .int x2]) [.int (bI t1), .ref o] h 0 0 := by
    intro t1 ht1 hn1
    refine thr1_ok X E M ⟨Nat.le_of_ble_eq_true rfl, Nat.le_of_ble_eq_true rfl⟩ ⟨Nat.le_of_ble_eq_true rfl, Nat.le_of_ble_eq_true rfl⟩ (Nat.le_of_ble_eq_true rfl) (dk rfl) (fun h1 M1 F1 => ?_)
    cases hb : t1 with
    | true =>
      have hT1 : ¬ (inN 6 x1) → aSizeAt x1 x2 (sl, an, da, dr) = ((1, 0), (sl, an, da, dr)) := (fun hn => by
          unfold aSizeAt
          by_cases q0 : okI 6 x1 = true
          rotate_left
          · exact if_neg q0
          rw [if_pos q0]
          exact absurd (okI_in (by decide) q0) hn)
      have hE : aSizeAt x1 x2 (sl, an, da, dr) = ((thI t1 false, 0), (sl, an, da, dr)) := by
        rw [hb]
        exact hT1 (hn1 hb)
      refine br_ok X (dk rfl) rfl (show ((16 : Nat) : Int) + 7 = ((23 : Nat) : Int) from rfl) (fun q => absurd q bI_t) (fun _ => ?_)
      refine fst1_ok X (dk rfl) rfl ?_
      refine br_ok X (dk rfl) rfl (show ((20 : Nat) : Int) + 29 = ((49 : Nat) : Int) from rfl) (fun _ => ?_) (fun q => absurd trivial q)
      exact reti_ok X hr hlk rfl (dk rfl) (refR_thr M1 F1 hE (by decide +kernel)) (Nat.zero_le _) (Nat.zero_le _)
    | false =>
      refine br_ok X (dk rfl) rfl (show ((16 : Nat) : Int) + 7 = ((23 : Nat) : Int) from rfl) (fun _ => ?_) (fun q => absurd bI_f' q)
      obtain ⟨j1, hj1, rfl⟩ := ht1 hb
      have M1 : MD h1 o S A sl an da dr kn (nI 0) := by
        rw [hb] at M1
        exact M1
      obtain ⟨ss, s1, s2, s3⟩ := M1.slot
      obtain ⟨as, a1, a2, a3⟩ := M1.ans
      obtain ⟨b1, y1, e1, f1, g1, w1, n1⟩ := s3 j1 hj1
      have ly1 : (y1.map vI).length = y1.length := List.length_map _
      repeat refine fst1_ok X (dk rfl) rfl ?_
      refine callV_ok (ci := 12) (T := TX10) (N := 6) (av := [vI j1, .int x2]) (r := []) X E (c_isPlace h1 M1 hj1 x2) lkX10_isPlace mlX10_113 lmX10_isPlace lpX10_isPlace ⟨Nat.le_of_ble_eq_true rfl, Nat.le_of_ble_eq_true rfl⟩ ⟨Nat.le_of_ble_eq_true rfl, Nat.le_of_ble_eq_true rfl⟩ rfl M1.obj (Nat.le_of_ble_eq_true rfl) (dk rfl) ?_
      rintro v h2 ⟨⟨bp, rfl, hbp, hnp⟩, rfl⟩
      cases bp with
      | false =>
        refine br_ok X (dk rfl) rfl (show ((29 : Nat) : Int) + 18 = ((47 : Nat) : Int) from rfl) (fun _ => ?_) (fun q => absurd bI_f' q)
        refine fst1_ok X (dk rfl) rfl ?_
        exact reti_ok X hr hlk rfl (dk rfl) (refR_ok M1 (F1) (by unfold aSizeAt; dsimp only; rw [if_pos (okI_t hj1 (by decide)), xI_n (by omega), getD_of f1]; rw [if_neg (by rw [okI_f (hnp rfl y1 f1)]; decide)]; first | done | rfl)) (Nat.le_of_ble_eq_true rfl) (Nat.le_of_ble_eq_true rfl)
      | true =>
        refine br_ok X (dk rfl) rfl (show ((29 : Nat) : Int) + 18 = ((47 : Nat) : Int) from rfl) (fun q => absurd q bI_t) (fun _ => ?_)
        obtain ⟨j2, hj2, rfl⟩ := hbp rfl y1 f1
        obtain ⟨k0, t1, t2, t3, t4⟩ := w1.at hj2
        repeat refine fst1_ok X (dk rfl) rfl ?_
        refine getf_ok X flX10_11 (dk rfl) M1.obj rfl ?_
        refine fst1_ok X (dk rfl) rfl ?_
        refine ldr_ok X (dk rfl) s2 e1 (by omega) ?_
        refine fst1_ok X (dk rfl) rfl ?_
        refine callS_ok (av := [.ref b1, vI j2]) (r := []) X E (c_end h2 g1 w1.lt (by omega) t1) lkX10_end mlX10_36 lsX10_end ⟨Nat.le_of_ble_eq_true rfl, Nat.le_of_ble_eq_true rfl⟩ ⟨Nat.le_of_ble_eq_true rfl, Nat.le_of_ble_eq_true rfl⟩ (Nat.le_of_ble_eq_true rfl) (dk rfl) ?_
        rintro v h3 ⟨rfl, rfl⟩
        repeat refine fst1_ok X (dk rfl) rfl ?_
        refine br_ok X (dk rfl) rfl (show ((44 : Nat) : Int) + 5 = ((49 : Nat) : Int) from rfl) (fun _ => ?_) (fun q => absurd trivial q)
        exact reti_ok X hr hlk rfl (dk rfl) (refR_ok M1 (F1) (by unfold aSizeAt; dsimp only; rw [if_pos (okI_t hj1 (by decide)), xI_n (by omega), xI_n (by omega), getD_of f1]; rw [if_pos (okI_t hj2 (by omega)), tl_of t1, nI_sub (by omega), Nat.add_sub_cancel_left]; first | done | rfl)) (Nat.le_of_ble_eq_true rfl) (Nat.le_of_ble_eq_true rfl)
  iterate 2 refine fst1_ok X (dk rfl) rfl ?_
  refine isSlot_ok X E mlX10_95 ⟨Nat.le_of_ble_eq_true rfl, Nat.le_of_ble_eq_true rfl⟩ ⟨Nat.le_of_ble_eq_true rfl, Nat.le_of_ble_eq_true rfl⟩ (Nat.le_of_ble_eq_true rfl) (dk rfl) (fun mid1b0 mid1h0 mid1n0 => ?_)
  cases mid1b0 with
  | false =>
    refine br_ok X (dk rfl) rfl (show ((5 : Nat) : Int) + 7 = ((12 : Nat) : Int) from rfl) (fun q => absurd q bI_f) (fun _ => ?_)
    refine fst1_ok X (dk rfl) rfl ?_
    refine br_ok X (dk rfl) rfl (show ((9 : Nat) : Int) + 4 = ((13 : Nat) : Int) from rfl) (fun _ => ?_) (fun q => absurd trivial q)
    exact mid1 true (fun z => by cases z) (fun _ hh => absurd (hh) (mid1n0 rfl))
  | true =>
    refine br_ok X (dk rfl) rfl (show ((5 : Nat) : Int) + 7 = ((12 : Nat) : Int) from rfl) (fun _ => ?_) (fun q => absurd bI_t q)
    refine fst1_ok X (dk rfl) rfl ?_
    exact mid1 false (fun _ => mid1h0 rfl) (fun z => by cases z)
set_option maxHeartbeats 4000000 in
theorem RF.x_count (h : AH) (M : MD h o S A sl an da dr kn th) (x1 x2 : Int32) : CT la D cA B0 pa yX10_count cX10_count 3 (some .int) (rmD 2 0 0) [.ref o, .int x1, .int x2] h (refR o S A kn (aCount x1 x2 (sl, an, da, dr)) h) := by
  refine CT_of (by decide +kernel) (Nat.le_of_ble_eq_true rfl) ?_
  intro p e s m args below meth c X E hr hlk hnm
  have dk : ∀ {pc : Nat} {q : Instr × Nat}, lkd DX10_count pc = some q → decode cX10_count pc = .ok q := lkd_ok DX10_count_ok
  have mid2 : ∀ t1 t2 : Bool, (t1 = false → inN 6 x1) → (t1 = true → ¬ (inN 6 x1)) → (t2 = false → inN 8 x2) → (t2 = true → ¬ (inN 8 x2)) → WR p la e (rmD 2 0 0) s m args below meth c D cA B0 3 (refR o S A kn (aCount x1 x2 (sl, an, da, dr)) h) 25 (lv_args 0 [.ref o, .int x1, .int x2]) [.int (bI t2), .int (bI t1), .ref o] h 0 0 := by
    intro t1 t2 ht1 hn1 ht2 hn2
    refine thr2_ok X E M ⟨Nat.le_of_ble_eq_true rfl, Nat.le_of_ble_eq_true rfl⟩ ⟨Nat.le_of_ble_eq_true rfl, Nat.le_of_ble_eq_true rfl⟩ (Nat.le_of_ble_eq_true rfl) (dk rfl) (fun h1 M1 F1 => ?_)
    cases hb : (t1 || t2) with
    | true =>
      have hT1 : ¬ (inN 6 x1) → aCount x1 x2 (sl, an, da, dr) = ((1, 0), (sl, an, da, dr)) := (fun hn => by
          unfold aCount
          by_cases q0 : okI 6 x1 = true
          rotate_left
          · exact if_neg q0
          rw [if_pos q0]
          exact absurd (okI_in (by decide) q0) hn)
      have hT2 : (inN 6 x1) → ¬ (inN 8 x2) → aCount x1 x2 (sl, an, da, dr) = ((2, 0), (sl, an, da, dr)) := (fun hp hq => by
          unfold aCount
          rw [if_pos (okI_of (by decide) (hp)), if_neg (by rw [okI_f hq]; decide)])
      have hE : aCount x1 x2 (sl, an, da, dr) = ((thI t1 t2, 0), (sl, an, da, dr)) := by
        cases t1 with
        | true => exact hT1 (hn1 rfl)
        | false =>
          cases t2 with
          | true => exact hT2 (ht1 rfl) (hn2 rfl)
          | false => cases hb
      refine br_ok X (dk rfl) rfl (show ((28 : Nat) : Int) + 7 = ((35 : Nat) : Int) from rfl) (fun q => absurd q bI_t) (fun _ => ?_)
      refine fst1_ok X (dk rfl) rfl ?_
      refine br_ok X (dk rfl) rfl (show ((32 : Nat) : Int) + 13 = ((45 : Nat) : Int) from rfl) (fun _ => ?_) (fun q => absurd trivial q)
      exact reti_ok X hr hlk rfl (dk rfl) (refR_thr M1 F1 hE (by decide +kernel)) (Nat.zero_le _) (Nat.zero_le _)
    | false =>
      refine br_ok X (dk rfl) rfl (show ((28 : Nat) : Int) + 7 = ((35 : Nat) : Int) from rfl) (fun _ => ?_) (fun q => absurd bI_f' q)
      obtain ⟨hb1, hb2⟩ := Bool.or_eq_false_iff.mp hb
      obtain ⟨j1, hj1, rfl⟩ := ht1 hb1
      obtain ⟨j2, hj2, rfl⟩ := ht2 hb2
      have th0 : thI t1 t2 = 0 := by
        cases t1 with
        | true => cases hb
        | false =>
          cases t2 with
          | true => cases hb
          | false => rfl
      rw [th0] at M1
      obtain ⟨ss, s1, s2, s3⟩ := M1.slot
      obtain ⟨as, a1, a2, a3⟩ := M1.ans
      obtain ⟨b1, y1, e1, f1, g1, w1, n1⟩ := s3 j1 hj1
      have ly1 : (y1.map vI).length = y1.length := List.length_map _
      repeat refine fst1_ok X (dk rfl) rfl ?_
      refine getf_ok X flX10_11 (dk rfl) M1.obj rfl ?_
      refine fst1_ok X (dk rfl) rfl ?_
      refine ldr_ok X (dk rfl) s2 e1 (by omega) ?_
      refine fst1_ok X (dk rfl) rfl ?_
      refine callS_ok (av := [.ref b1, vI j2]) (r := []) X E (RF.c_often h1 (yy := j2) (by omega) (fun x hx => by have := w1.lt x hx; omega) g1 (by omega)) lkX10_often mlX10_117 lsX10_often ⟨Nat.le_of_ble_eq_true rfl, Nat.le_of_ble_eq_true rfl⟩ ⟨Nat.le_of_ble_eq_true rfl, Nat.le_of_ble_eq_true rfl⟩ (Nat.le_of_ble_eq_true rfl) (dk rfl) ?_
      rintro v h2 ⟨rfl, rfl⟩
      exact reti_ok X hr hlk rfl (dk rfl) (refR_ok M1 (F1) (by unfold aCount; dsimp only; rw [if_pos (okI_t hj1 (by decide)), if_pos (okI_t hj2 (by decide)), xI_n (by omega), xI_n (by omega), getD_of f1]; first | done | rfl)) (Nat.le_of_ble_eq_true rfl) (Nat.le_of_ble_eq_true rfl)
  have mid1 : ∀ t1 : Bool, (t1 = false → inN 6 x1) → (t1 = true → ¬ (inN 6 x1)) → WR p la e (rmD 2 0 0) s m args below meth c D cA B0 3 (refR o S A kn (aCount x1 x2 (sl, an, da, dr)) h) 13 (lv_args 0 [.ref o, .int x1, .int x2]) [.int (bI t1), .ref o] h 0 0 := by
    intro t1 ht1 hn1
    have mid2 := fun t2 => mid2 t1 t2 ht1 hn1
    iterate 1 refine fst1_ok X (dk rfl) rfl ?_
    refine isName_ok X E mlX10_99 ⟨Nat.le_of_ble_eq_true rfl, Nat.le_of_ble_eq_true rfl⟩ ⟨Nat.le_of_ble_eq_true rfl, Nat.le_of_ble_eq_true rfl⟩ (Nat.le_of_ble_eq_true rfl) (dk rfl) (fun mid2b0 mid2h0 mid2n0 => ?_)
    cases mid2b0 with
    | false =>
      refine br_ok X (dk rfl) rfl (show ((17 : Nat) : Int) + 7 = ((24 : Nat) : Int) from rfl) (fun q => absurd q bI_f) (fun _ => ?_)
      refine fst1_ok X (dk rfl) rfl ?_
      refine br_ok X (dk rfl) rfl (show ((21 : Nat) : Int) + 4 = ((25 : Nat) : Int) from rfl) (fun _ => ?_) (fun q => absurd trivial q)
      exact mid2 true (fun z => by cases z) (fun _ hh => absurd (hh) (mid2n0 rfl))
    | true =>
      refine br_ok X (dk rfl) rfl (show ((17 : Nat) : Int) + 7 = ((24 : Nat) : Int) from rfl) (fun _ => ?_) (fun q => absurd bI_t q)
      refine fst1_ok X (dk rfl) rfl ?_
      exact mid2 false (fun _ => mid2h0 rfl) (fun z => by cases z)
  iterate 2 refine fst1_ok X (dk rfl) rfl ?_
  refine isSlot_ok X E mlX10_95 ⟨Nat.le_of_ble_eq_true rfl, Nat.le_of_ble_eq_true rfl⟩ ⟨Nat.le_of_ble_eq_true rfl, Nat.le_of_ble_eq_true rfl⟩ (Nat.le_of_ble_eq_true rfl) (dk rfl) (fun mid1b0 mid1h0 mid1n0 => ?_)
  cases mid1b0 with
  | false =>
    refine br_ok X (dk rfl) rfl (show ((5 : Nat) : Int) + 7 = ((12 : Nat) : Int) from rfl) (fun q => absurd q bI_f) (fun _ => ?_)
    refine fst1_ok X (dk rfl) rfl ?_
    refine br_ok X (dk rfl) rfl (show ((9 : Nat) : Int) + 4 = ((13 : Nat) : Int) from rfl) (fun _ => ?_) (fun q => absurd trivial q)
    exact mid1 true (fun z => by cases z) (fun _ hh => absurd (hh) (mid1n0 rfl))
  | true =>
    refine br_ok X (dk rfl) rfl (show ((5 : Nat) : Int) + 7 = ((12 : Nat) : Int) from rfl) (fun _ => ?_) (fun q => absurd bI_t q)
    refine fst1_ok X (dk rfl) rfl ?_
    exact mid1 false (fun _ => mid1h0 rfl) (fun z => by cases z)
set_option maxHeartbeats 4000000 in
theorem RF.x_names (h : AH) (M : MD h o S A sl an da dr kn th) (x1 : Int32) : CT la D cA B0 pa yX10_names cX10_names 2 (some .int) (rmD 2 0 0) [.ref o, .int x1] h (refR o S A kn (aNames x1 (sl, an, da, dr)) h) := by
  refine CT_of (by decide +kernel) (Nat.le_of_ble_eq_true rfl) ?_
  intro p e s m args below meth c X E hr hlk hnm
  have dk : ∀ {pc : Nat} {q : Instr × Nat}, lkd DX10_names pc = some q → decode cX10_names pc = .ok q := lkd_ok DX10_names_ok
  have mid1 : ∀ t1 : Bool, (t1 = false → inN 6 x1) → (t1 = true → ¬ (inN 6 x1)) → WR p la e (rmD 2 0 0) s m args below meth c D cA B0 2 (refR o S A kn (aNames x1 (sl, an, da, dr)) h) 13 (lv_args 0 [.ref o, .int x1]) [.int (bI t1), .ref o] h 0 0 := by
    intro t1 ht1 hn1
    refine thr1_ok X E M ⟨Nat.le_of_ble_eq_true rfl, Nat.le_of_ble_eq_true rfl⟩ ⟨Nat.le_of_ble_eq_true rfl, Nat.le_of_ble_eq_true rfl⟩ (Nat.le_of_ble_eq_true rfl) (dk rfl) (fun h1 M1 F1 => ?_)
    cases hb : t1 with
    | true =>
      have hT1 : ¬ (inN 6 x1) → aNames x1 (sl, an, da, dr) = ((1, 0), (sl, an, da, dr)) := (fun hn => by
          unfold aNames
          by_cases q0 : okI 6 x1 = true
          rotate_left
          · exact if_neg q0
          rw [if_pos q0]
          exact absurd (okI_in (by decide) q0) hn)
      have hE : aNames x1 (sl, an, da, dr) = ((thI t1 false, 0), (sl, an, da, dr)) := by
        rw [hb]
        exact hT1 (hn1 hb)
      refine br_ok X (dk rfl) rfl (show ((16 : Nat) : Int) + 7 = ((23 : Nat) : Int) from rfl) (fun q => absurd q bI_t) (fun _ => ?_)
      refine fst1_ok X (dk rfl) rfl ?_
      refine br_ok X (dk rfl) rfl (show ((20 : Nat) : Int) + 12 = ((32 : Nat) : Int) from rfl) (fun _ => ?_) (fun q => absurd trivial q)
      exact reti_ok X hr hlk rfl (dk rfl) (refR_thr M1 F1 hE (by decide +kernel)) (Nat.zero_le _) (Nat.zero_le _)
    | false =>
      refine br_ok X (dk rfl) rfl (show ((16 : Nat) : Int) + 7 = ((23 : Nat) : Int) from rfl) (fun _ => ?_) (fun q => absurd bI_f' q)
      obtain ⟨j1, hj1, rfl⟩ := ht1 hb
      have M1 : MD h1 o S A sl an da dr kn (nI 0) := by
        rw [hb] at M1
        exact M1
      obtain ⟨ss, s1, s2, s3⟩ := M1.slot
      obtain ⟨as, a1, a2, a3⟩ := M1.ans
      obtain ⟨b1, y1, e1, f1, g1, w1, n1⟩ := s3 j1 hj1
      have ly1 : (y1.map vI).length = y1.length := List.length_map _
      repeat refine fst1_ok X (dk rfl) rfl ?_
      refine getf_ok X flX10_11 (dk rfl) M1.obj rfl ?_
      refine fst1_ok X (dk rfl) rfl ?_
      refine ldr_ok X (dk rfl) s2 e1 (by omega) ?_
      refine callS_ok (av := [.ref b1]) (r := []) X E (c_namesOf h1 g1 (by omega) w1.lt) lkX10_namesOf mlX10_124 lsX10_namesOf ⟨Nat.le_of_ble_eq_true rfl, Nat.le_of_ble_eq_true rfl⟩ ⟨Nat.le_of_ble_eq_true rfl, Nat.le_of_ble_eq_true rfl⟩ (Nat.le_of_ble_eq_true rfl) (dk rfl) ?_
      rintro v h2 ⟨rfl, rfl⟩
      exact reti_ok X hr hlk rfl (dk rfl) (refR_ok M1 (F1) (by unfold aNames; dsimp only; rw [if_pos (okI_t hj1 (by decide)), xI_n (by omega), getD_of f1]; first | done | rfl)) (Nat.le_of_ble_eq_true rfl) (Nat.le_of_ble_eq_true rfl)
  iterate 2 refine fst1_ok X (dk rfl) rfl ?_
  refine isSlot_ok X E mlX10_95 ⟨Nat.le_of_ble_eq_true rfl, Nat.le_of_ble_eq_true rfl⟩ ⟨Nat.le_of_ble_eq_true rfl, Nat.le_of_ble_eq_true rfl⟩ (Nat.le_of_ble_eq_true rfl) (dk rfl) (fun mid1b0 mid1h0 mid1n0 => ?_)
  cases mid1b0 with
  | false =>
    refine br_ok X (dk rfl) rfl (show ((5 : Nat) : Int) + 7 = ((12 : Nat) : Int) from rfl) (fun q => absurd q bI_f) (fun _ => ?_)
    refine fst1_ok X (dk rfl) rfl ?_
    refine br_ok X (dk rfl) rfl (show ((9 : Nat) : Int) + 4 = ((13 : Nat) : Int) from rfl) (fun _ => ?_) (fun q => absurd trivial q)
    exact mid1 true (fun z => by cases z) (fun _ hh => absurd (hh) (mid1n0 rfl))
  | true =>
    refine br_ok X (dk rfl) rfl (show ((5 : Nat) : Int) + 7 = ((12 : Nat) : Int) from rfl) (fun _ => ?_) (fun q => absurd bI_t q)
    refine fst1_ok X (dk rfl) rfl ?_
    exact mid1 false (fun _ => mid1h0 rfl) (fun z => by cases z)
set_option maxHeartbeats 4000000 in
theorem RF.x_moved (h : AH) (M : MD h o S A sl an da dr kn th) (x1 : Int32) : CT la D cA B0 pa yX10_moved cX10_moved 2 (some .int) (rmD 4 8 8) [.ref o, .int x1] h (refR o S A kn (aMoved x1 (sl, an, da, dr)) h) := by
  refine CT_of (by decide +kernel) (Nat.le_of_ble_eq_true rfl) ?_
  intro p e s m args below meth c X E hr hlk hnm
  have dk : ∀ {pc : Nat} {q : Instr × Nat}, lkd DX10_moved pc = some q → decode cX10_moved pc = .ok q := lkd_ok DX10_moved_ok
  have mid1 : ∀ t1 : Bool, (t1 = false → inN 3 x1) → (t1 = true → ¬ (inN 3 x1)) → WR p la e (rmD 4 8 8) s m args below meth c D cA B0 2 (refR o S A kn (aMoved x1 (sl, an, da, dr)) h) 13 (lv_args 0 [.ref o, .int x1]) [.int (bI t1), .ref o] h 0 0 := by
    intro t1 ht1 hn1
    refine thr1_ok X E M ⟨Nat.le_of_ble_eq_true rfl, Nat.le_of_ble_eq_true rfl⟩ ⟨Nat.le_of_ble_eq_true rfl, Nat.le_of_ble_eq_true rfl⟩ (Nat.le_of_ble_eq_true rfl) (dk rfl) (fun h1 M1 F1 => ?_)
    cases hb : t1 with
    | true =>
      have hT1 : ¬ (inN 3 x1) → aMoved x1 (sl, an, da, dr) = ((1, 0), (sl, an, da, dr)) := (fun hn => by
          unfold aMoved
          by_cases q0 : okI 3 x1 = true
          rotate_left
          · exact if_neg q0
          rw [if_pos q0]
          exact absurd (okI_in (by decide) q0) hn)
      have hE : aMoved x1 (sl, an, da, dr) = ((thI t1 false, 0), (sl, an, da, dr)) := by
        rw [hb]
        exact hT1 (hn1 hb)
      refine br_ok X (dk rfl) rfl (show ((16 : Nat) : Int) + 7 = ((23 : Nat) : Int) from rfl) (fun q => absurd q bI_t) (fun _ => ?_)
      refine fst1_ok X (dk rfl) rfl ?_
      refine br_ok X (dk rfl) rfl (show ((20 : Nat) : Int) + 12 = ((32 : Nat) : Int) from rfl) (fun _ => ?_) (fun q => absurd trivial q)
      exact reti_ok X hr hlk rfl (dk rfl) (refR_thr M1 F1 hE (by decide +kernel)) (Nat.zero_le _) (Nat.zero_le _)
    | false =>
      refine br_ok X (dk rfl) rfl (show ((16 : Nat) : Int) + 7 = ((23 : Nat) : Int) from rfl) (fun _ => ?_) (fun q => absurd bI_f' q)
      obtain ⟨j1, hj1, rfl⟩ := ht1 hb
      have M1 : MD h1 o S A sl an da dr kn (nI 0) := by
        rw [hb] at M1
        exact M1
      obtain ⟨ss, s1, s2, s3⟩ := M1.slot
      obtain ⟨as, a1, a2, a3⟩ := M1.ans
      obtain ⟨b1, y1, e1, f1, g1, w1, n1⟩ := a3 j1 hj1
      repeat refine fst1_ok X (dk rfl) rfl ?_
      refine getf_ok X flX10_16 (dk rfl) M1.obj rfl ?_
      refine fst1_ok X (dk rfl) rfl ?_
      refine lda_ok X (dk rfl) a2 e1 (by omega) ?_
      refine callS_ok (av := [.ref b1]) (r := []) X E (c_movedBy h1 g1 w1) lkX10_movedBy mlX10_141 lsX10_movedBy ⟨Nat.le_of_ble_eq_true rfl, Nat.le_of_ble_eq_true rfl⟩ ⟨Nat.le_of_ble_eq_true rfl, Nat.le_of_ble_eq_true rfl⟩ (Nat.le_of_ble_eq_true rfl) (dk rfl) ?_
      rintro v h2 ⟨rfl, E1⟩
      exact reti_ok X hr hlk rfl (dk rfl) (refR_ok (M1.ext E1) (F1.trans (Fr.ext E1)) (by unfold aMoved; dsimp only; rw [if_pos (okI_t hj1 (by decide)), xI_n (by omega), getD_of f1]; first | done | rfl)) (Nat.le_of_ble_eq_true rfl) (Nat.le_of_ble_eq_true rfl)
  iterate 2 refine fst1_ok X (dk rfl) rfl ?_
  refine isAnswer_ok X E mlX10_135 ⟨Nat.le_of_ble_eq_true rfl, Nat.le_of_ble_eq_true rfl⟩ ⟨Nat.le_of_ble_eq_true rfl, Nat.le_of_ble_eq_true rfl⟩ (Nat.le_of_ble_eq_true rfl) (dk rfl) (fun mid1b0 mid1h0 mid1n0 => ?_)
  cases mid1b0 with
  | false =>
    refine br_ok X (dk rfl) rfl (show ((5 : Nat) : Int) + 7 = ((12 : Nat) : Int) from rfl) (fun q => absurd q bI_f) (fun _ => ?_)
    refine fst1_ok X (dk rfl) rfl ?_
    refine br_ok X (dk rfl) rfl (show ((9 : Nat) : Int) + 4 = ((13 : Nat) : Int) from rfl) (fun _ => ?_) (fun q => absurd trivial q)
    exact mid1 true (fun z => by cases z) (fun _ hh => absurd (hh) (mid1n0 rfl))
  | true =>
    refine br_ok X (dk rfl) rfl (show ((5 : Nat) : Int) + 7 = ((12 : Nat) : Int) from rfl) (fun _ => ?_) (fun q => absurd bI_t q)
    refine fst1_ok X (dk rfl) rfl ?_
    exact mid1 false (fun _ => mid1h0 rfl) (fun z => by cases z)
set_option maxHeartbeats 4000000 in
theorem RF.x_differ (h : AH) (M : MD h o S A sl an da dr kn th) (x1 x2 : Int32) : CT la D cA B0 pa yX10_differ cX10_differ 3 (some .int) (rmD 2 0 0) [.ref o, .int x1, .int x2] h (refR o S A kn (aDiffer x1 x2 (sl, an, da, dr)) h) := by
  refine CT_of (by decide +kernel) (Nat.le_of_ble_eq_true rfl) ?_
  intro p e s m args below meth c X E hr hlk hnm
  have dk : ∀ {pc : Nat} {q : Instr × Nat}, lkd DX10_differ pc = some q → decode cX10_differ pc = .ok q := lkd_ok DX10_differ_ok
  have mid1 : ∀ t1 : Bool, (t1 = false → inN 6 x1 ∧ inN 6 x2) → (t1 = true → ¬ (inN 6 x1 ∧ inN 6 x2)) → WR p la e (rmD 2 0 0) s m args below meth c D cA B0 3 (refR o S A kn (aDiffer x1 x2 (sl, an, da, dr)) h) 20 (lv_args 0 [.ref o, .int x1, .int x2]) [.int (bI t1), .ref o] h 0 0 := by
    intro t1 ht1 hn1
    refine thr1_ok X E M ⟨Nat.le_of_ble_eq_true rfl, Nat.le_of_ble_eq_true rfl⟩ ⟨Nat.le_of_ble_eq_true rfl, Nat.le_of_ble_eq_true rfl⟩ (Nat.le_of_ble_eq_true rfl) (dk rfl) (fun h1 M1 F1 => ?_)
    cases hb : t1 with
    | true =>
      have hT1 : ¬ (inN 6 x1 ∧ inN 6 x2) → aDiffer x1 x2 (sl, an, da, dr) = ((1, 0), (sl, an, da, dr)) := (fun hn => by
          unfold aDiffer
          by_cases q0 : okI 6 x1 = true
          rotate_left
          · exact if_neg q0
          rw [if_pos q0]
          by_cases q1 : okI 6 x2 = true
          rotate_left
          · exact if_neg q1
          rw [if_pos q1]
          exact absurd ⟨okI_in (by decide) q0, okI_in (by decide) q1⟩ hn)
      have hE : aDiffer x1 x2 (sl, an, da, dr) = ((thI t1 false, 0), (sl, an, da, dr)) := by
        rw [hb]
        exact hT1 (hn1 hb)
      refine br_ok X (dk rfl) rfl (show ((23 : Nat) : Int) + 7 = ((30 : Nat) : Int) from rfl) (fun q => absurd q bI_t) (fun _ => ?_)
      refine fst1_ok X (dk rfl) rfl ?_
      refine br_ok X (dk rfl) rfl (show ((27 : Nat) : Int) + 18 = ((45 : Nat) : Int) from rfl) (fun _ => ?_) (fun q => absurd trivial q)
      exact reti_ok X hr hlk rfl (dk rfl) (refR_thr M1 F1 hE (by decide +kernel)) (Nat.zero_le _) (Nat.zero_le _)
    | false =>
      refine br_ok X (dk rfl) rfl (show ((23 : Nat) : Int) + 7 = ((30 : Nat) : Int) from rfl) (fun _ => ?_) (fun q => absurd bI_f' q)
      obtain ⟨⟨j1, hj1, rfl⟩, ⟨j2, hj2, rfl⟩⟩ := ht1 hb
      have M1 : MD h1 o S A sl an da dr kn (nI 0) := by
        rw [hb] at M1
        exact M1
      obtain ⟨ss, s1, s2, s3⟩ := M1.slot
      obtain ⟨as, a1, a2, a3⟩ := M1.ans
      obtain ⟨b1, y1, e1, f1, g1, w1, n1⟩ := s3 j1 hj1
      have ly1 : (y1.map vI).length = y1.length := List.length_map _
      obtain ⟨b2, y2, e2, f2, g2, w2, n2⟩ := s3 j2 hj2
      have ly2 : (y2.map vI).length = y2.length := List.length_map _
      repeat refine fst1_ok X (dk rfl) rfl ?_
      refine getf_ok X flX10_11 (dk rfl) M1.obj rfl ?_
      refine fst1_ok X (dk rfl) rfl ?_
      refine ldr_ok X (dk rfl) s2 e1 (by omega) ?_
      repeat refine fst1_ok X (dk rfl) rfl ?_
      refine getf_ok X flX10_11 (dk rfl) M1.obj rfl ?_
      refine fst1_ok X (dk rfl) rfl ?_
      refine ldr_ok X (dk rfl) s2 e2 (by omega) ?_
      refine callS_ok (av := [.ref b1, .ref b2]) (r := []) X E (c_first h1 g1 g2 (by omega) (by omega) w1.lt w2.lt) lkX10_first mlX10_44 lsX10_first ⟨Nat.le_of_ble_eq_true rfl, Nat.le_of_ble_eq_true rfl⟩ ⟨Nat.le_of_ble_eq_true rfl, Nat.le_of_ble_eq_true rfl⟩ (Nat.le_of_ble_eq_true rfl) (dk rfl) ?_
      rintro v h2 ⟨rfl, rfl⟩
      cases hd : diffAt y1 y2 with
      | none =>
        exact reti_ok X hr hlk rfl (dk rfl) (refR_ok M1 (F1) (by unfold aDiffer; dsimp only; rw [if_pos (okI_t hj1 (by decide)), if_pos (okI_t hj2 (by decide)), xI_n (by omega), xI_n (by omega), getD_of f1, getD_of f2]; rw [hd]; first | done | rfl)) (Nat.le_of_ble_eq_true rfl) (Nat.le_of_ble_eq_true rfl)
      | some d =>
        exact reti_ok X hr hlk rfl (dk rfl) (refR_ok M1 (F1) (by unfold aDiffer; dsimp only; rw [if_pos (okI_t hj1 (by decide)), if_pos (okI_t hj2 (by decide)), xI_n (by omega), xI_n (by omega), getD_of f1, getD_of f2]; rw [hd]; first | done | rfl)) (Nat.le_of_ble_eq_true rfl) (Nat.le_of_ble_eq_true rfl)
  iterate 2 refine fst1_ok X (dk rfl) rfl ?_
  refine isSlot_ok X E mlX10_95 ⟨Nat.le_of_ble_eq_true rfl, Nat.le_of_ble_eq_true rfl⟩ ⟨Nat.le_of_ble_eq_true rfl, Nat.le_of_ble_eq_true rfl⟩ (Nat.le_of_ble_eq_true rfl) (dk rfl) (fun mid1b0 mid1h0 mid1n0 => ?_)
  cases mid1b0 with
  | false =>
    refine br_ok X (dk rfl) rfl (show ((5 : Nat) : Int) + 10 = ((15 : Nat) : Int) from rfl) (fun _ => ?_) (fun q => absurd bI_f' q)
    refine fst1_ok X (dk rfl) rfl ?_
    refine br_ok X (dk rfl) rfl (show ((16 : Nat) : Int) + 4 = ((20 : Nat) : Int) from rfl) (fun _ => ?_) (fun q => absurd trivial q)
    exact mid1 true (fun z => by cases z) (fun _ hh => absurd (hh.1) (mid1n0 rfl))
  | true =>
    refine br_ok X (dk rfl) rfl (show ((5 : Nat) : Int) + 10 = ((15 : Nat) : Int) from rfl) (fun q => absurd q bI_t) (fun _ => ?_)
    iterate 1 refine fst1_ok X (dk rfl) rfl ?_
    refine isSlot_ok X E mlX10_95 ⟨Nat.le_of_ble_eq_true rfl, Nat.le_of_ble_eq_true rfl⟩ ⟨Nat.le_of_ble_eq_true rfl, Nat.le_of_ble_eq_true rfl⟩ (Nat.le_of_ble_eq_true rfl) (dk rfl) (fun mid1b1 mid1h1 mid1n1 => ?_)
    cases mid1b1 with
    | false =>
      refine br_ok X (dk rfl) rfl (show ((12 : Nat) : Int) + 7 = ((19 : Nat) : Int) from rfl) (fun q => absurd q bI_f) (fun _ => ?_)
      refine fst1_ok X (dk rfl) rfl ?_
      refine br_ok X (dk rfl) rfl (show ((16 : Nat) : Int) + 4 = ((20 : Nat) : Int) from rfl) (fun _ => ?_) (fun q => absurd trivial q)
      exact mid1 true (fun z => by cases z) (fun _ hh => absurd (hh.2) (mid1n1 rfl))
    | true =>
      refine br_ok X (dk rfl) rfl (show ((12 : Nat) : Int) + 7 = ((19 : Nat) : Int) from rfl) (fun _ => ?_) (fun q => absurd bI_t q)
      refine fst1_ok X (dk rfl) rfl ?_
      exact mid1 false (fun _ => ⟨mid1h0 rfl, mid1h1 rfl⟩) (fun z => by cases z)
set_option maxHeartbeats 4000000 in
theorem RF.x_unlike (h : AH) (M : MD h o S A sl an da dr kn th) (x1 x2 : Int32) : CT la D cA B0 pa yX10_unlike cX10_unlike 3 (some .int) (rmD 4 0 0) [.ref o, .int x1, .int x2] h (refR o S A kn (aUnlike x1 x2 (sl, an, da, dr)) h) := by
  refine CT_of (by decide +kernel) (Nat.le_of_ble_eq_true rfl) ?_
  intro p e s m args below meth c X E hr hlk hnm
  have dk : ∀ {pc : Nat} {q : Instr × Nat}, lkd DX10_unlike pc = some q → decode cX10_unlike pc = .ok q := lkd_ok DX10_unlike_ok
  have mid1 : ∀ t1 : Bool, (t1 = false → inN 3 x1 ∧ inN 3 x2) → (t1 = true → ¬ (inN 3 x1 ∧ inN 3 x2)) → WR p la e (rmD 4 0 0) s m args below meth c D cA B0 3 (refR o S A kn (aUnlike x1 x2 (sl, an, da, dr)) h) 20 (lv_args 0 [.ref o, .int x1, .int x2]) [.int (bI t1), .ref o] h 0 0 := by
    intro t1 ht1 hn1
    refine thr1_ok X E M ⟨Nat.le_of_ble_eq_true rfl, Nat.le_of_ble_eq_true rfl⟩ ⟨Nat.le_of_ble_eq_true rfl, Nat.le_of_ble_eq_true rfl⟩ (Nat.le_of_ble_eq_true rfl) (dk rfl) (fun h1 M1 F1 => ?_)
    cases hb : t1 with
    | true =>
      have hT1 : ¬ (inN 3 x1 ∧ inN 3 x2) → aUnlike x1 x2 (sl, an, da, dr) = ((1, 0), (sl, an, da, dr)) := (fun hn => by
          unfold aUnlike
          by_cases q0 : okI 3 x1 = true
          rotate_left
          · exact if_neg q0
          rw [if_pos q0]
          by_cases q1 : okI 3 x2 = true
          rotate_left
          · exact if_neg q1
          rw [if_pos q1]
          exact absurd ⟨okI_in (by decide) q0, okI_in (by decide) q1⟩ hn)
      have hE : aUnlike x1 x2 (sl, an, da, dr) = ((thI t1 false, 0), (sl, an, da, dr)) := by
        rw [hb]
        exact hT1 (hn1 hb)
      refine br_ok X (dk rfl) rfl (show ((23 : Nat) : Int) + 7 = ((30 : Nat) : Int) from rfl) (fun q => absurd q bI_t) (fun _ => ?_)
      refine fst1_ok X (dk rfl) rfl ?_
      refine br_ok X (dk rfl) rfl (show ((27 : Nat) : Int) + 18 = ((45 : Nat) : Int) from rfl) (fun _ => ?_) (fun q => absurd trivial q)
      exact reti_ok X hr hlk rfl (dk rfl) (refR_thr M1 F1 hE (by decide +kernel)) (Nat.zero_le _) (Nat.zero_le _)
    | false =>
      refine br_ok X (dk rfl) rfl (show ((23 : Nat) : Int) + 7 = ((30 : Nat) : Int) from rfl) (fun _ => ?_) (fun q => absurd bI_f' q)
      obtain ⟨⟨j1, hj1, rfl⟩, ⟨j2, hj2, rfl⟩⟩ := ht1 hb
      have M1 : MD h1 o S A sl an da dr kn (nI 0) := by
        rw [hb] at M1
        exact M1
      obtain ⟨ss, s1, s2, s3⟩ := M1.slot
      obtain ⟨as, a1, a2, a3⟩ := M1.ans
      obtain ⟨b1, y1, e1, f1, g1, w1, n1⟩ := a3 j1 hj1
      obtain ⟨b2, y2, e2, f2, g2, w2, n2⟩ := a3 j2 hj2
      repeat refine fst1_ok X (dk rfl) rfl ?_
      refine getf_ok X flX10_16 (dk rfl) M1.obj rfl ?_
      refine fst1_ok X (dk rfl) rfl ?_
      refine lda_ok X (dk rfl) a2 e1 (by omega) ?_
      repeat refine fst1_ok X (dk rfl) rfl ?_
      refine getf_ok X flX10_16 (dk rfl) M1.obj rfl ?_
      refine fst1_ok X (dk rfl) rfl ?_
      refine lda_ok X (dk rfl) a2 e2 (by omega) ?_
      refine callS_ok (av := [.ref b1, .ref b2]) (r := []) X E (c_unlikeOf h1 g1 g2 w1.aw w2.aw) lkX10_unlikeOf mlX10_214 lsX10_unlikeOf ⟨Nat.le_of_ble_eq_true rfl, Nat.le_of_ble_eq_true rfl⟩ ⟨Nat.le_of_ble_eq_true rfl, Nat.le_of_ble_eq_true rfl⟩ (Nat.le_of_ble_eq_true rfl) (dk rfl) ?_
      rintro v h2 ⟨⟨d, rfl, hd1, hd2⟩, rfl⟩
      cases d with
      | none =>
        exact reti_ok X hr hlk rfl (dk rfl) (refR_ok M1 (F1) (by unfold aUnlike; dsimp only; rw [if_pos (okI_t hj1 (by decide)), if_pos (okI_t hj2 (by decide)), xI_n (by omega), xI_n (by omega), getD_of f1, getD_of f2]; rw [ulN_of w1.1 w2.1 hd1 hd2]; first | done | rfl)) (Nat.le_of_ble_eq_true rfl) (Nat.le_of_ble_eq_true rfl)
      | some d =>
        exact reti_ok X hr hlk rfl (dk rfl) (refR_ok M1 (F1) (by unfold aUnlike; dsimp only; rw [if_pos (okI_t hj1 (by decide)), if_pos (okI_t hj2 (by decide)), xI_n (by omega), xI_n (by omega), getD_of f1, getD_of f2]; rw [ulN_of w1.1 w2.1 hd1 hd2]; first | done | rfl)) (Nat.le_of_ble_eq_true rfl) (Nat.le_of_ble_eq_true rfl)
  iterate 2 refine fst1_ok X (dk rfl) rfl ?_
  refine isAnswer_ok X E mlX10_135 ⟨Nat.le_of_ble_eq_true rfl, Nat.le_of_ble_eq_true rfl⟩ ⟨Nat.le_of_ble_eq_true rfl, Nat.le_of_ble_eq_true rfl⟩ (Nat.le_of_ble_eq_true rfl) (dk rfl) (fun mid1b0 mid1h0 mid1n0 => ?_)
  cases mid1b0 with
  | false =>
    refine br_ok X (dk rfl) rfl (show ((5 : Nat) : Int) + 10 = ((15 : Nat) : Int) from rfl) (fun _ => ?_) (fun q => absurd bI_f' q)
    refine fst1_ok X (dk rfl) rfl ?_
    refine br_ok X (dk rfl) rfl (show ((16 : Nat) : Int) + 4 = ((20 : Nat) : Int) from rfl) (fun _ => ?_) (fun q => absurd trivial q)
    exact mid1 true (fun z => by cases z) (fun _ hh => absurd (hh.1) (mid1n0 rfl))
  | true =>
    refine br_ok X (dk rfl) rfl (show ((5 : Nat) : Int) + 10 = ((15 : Nat) : Int) from rfl) (fun q => absurd q bI_t) (fun _ => ?_)
    iterate 1 refine fst1_ok X (dk rfl) rfl ?_
    refine isAnswer_ok X E mlX10_135 ⟨Nat.le_of_ble_eq_true rfl, Nat.le_of_ble_eq_true rfl⟩ ⟨Nat.le_of_ble_eq_true rfl, Nat.le_of_ble_eq_true rfl⟩ (Nat.le_of_ble_eq_true rfl) (dk rfl) (fun mid1b1 mid1h1 mid1n1 => ?_)
    cases mid1b1 with
    | false =>
      refine br_ok X (dk rfl) rfl (show ((12 : Nat) : Int) + 7 = ((19 : Nat) : Int) from rfl) (fun q => absurd q bI_f) (fun _ => ?_)
      refine fst1_ok X (dk rfl) rfl ?_
      refine br_ok X (dk rfl) rfl (show ((16 : Nat) : Int) + 4 = ((20 : Nat) : Int) from rfl) (fun _ => ?_) (fun q => absurd trivial q)
      exact mid1 true (fun z => by cases z) (fun _ hh => absurd (hh.2) (mid1n1 rfl))
    | true =>
      refine br_ok X (dk rfl) rfl (show ((12 : Nat) : Int) + 7 = ((19 : Nat) : Int) from rfl) (fun _ => ?_) (fun q => absurd bI_t q)
      refine fst1_ok X (dk rfl) rfl ?_
      exact mid1 false (fun _ => ⟨mid1h0 rfl, mid1h1 rfl⟩) (fun z => by cases z)
set_option maxHeartbeats 4000000 in
theorem RF.x_find (h : AH) (M : MD h o S A sl an da dr kn th) (x1 x2 : Int32) : CT la D cA B0 pa yX10_find cX10_find 4 (some .int) (rmD 3 0 0) [.ref o, .int x1, .int x2] h (refR o S A kn (aFind x1 x2 (sl, an, da, dr)) h) := by
  refine CT_of (by decide +kernel) (Nat.le_of_ble_eq_true rfl) ?_
  intro p e s m args below meth c X E hr hlk hnm
  have dk : ∀ {pc : Nat} {q : Instr × Nat}, lkd DX10_find pc = some q → decode cX10_find pc = .ok q := lkd_ok DX10_find_ok
  have mid1 : ∀ t1 : Bool, (t1 = false → inN 6 x1 ∧ inN 6 x2) → (t1 = true → ¬ (inN 6 x1 ∧ inN 6 x2)) → WR p la e (rmD 3 0 0) s m args below meth c D cA B0 4 (refR o S A kn (aFind x1 x2 (sl, an, da, dr)) h) 20 (lv_args 0 [.ref o, .int x1, .int x2]) [.int (bI t1), .ref o] h 0 0 := by
    intro t1 ht1 hn1
    refine thr1_ok X E M ⟨Nat.le_of_ble_eq_true rfl, Nat.le_of_ble_eq_true rfl⟩ ⟨Nat.le_of_ble_eq_true rfl, Nat.le_of_ble_eq_true rfl⟩ (Nat.le_of_ble_eq_true rfl) (dk rfl) (fun h1 M1 F1 => ?_)
    cases hb : t1 with
    | true =>
      have hT1 : ¬ (inN 6 x1 ∧ inN 6 x2) → aFind x1 x2 (sl, an, da, dr) = ((1, 0), (sl, an, da, dr)) := (fun hn => by
          unfold aFind
          by_cases q0 : okI 6 x1 = true
          rotate_left
          · exact if_neg q0
          rw [if_pos q0]
          by_cases q1 : okI 6 x2 = true
          rotate_left
          · exact if_neg q1
          rw [if_pos q1]
          exact absurd ⟨okI_in (by decide) q0, okI_in (by decide) q1⟩ hn)
      have hE : aFind x1 x2 (sl, an, da, dr) = ((thI t1 false, 0), (sl, an, da, dr)) := by
        rw [hb]
        exact hT1 (hn1 hb)
      refine br_ok X (dk rfl) rfl (show ((23 : Nat) : Int) + 5 = ((28 : Nat) : Int) from rfl) (fun q => absurd q bI_t) (fun _ => ?_)
      refine fst1_ok X (dk rfl) rfl ?_
      exact reti_ok X hr hlk rfl (dk rfl) (refR_thr M1 F1 hE (by decide +kernel)) (Nat.zero_le _) (Nat.zero_le _)
    | false =>
      refine br_ok X (dk rfl) rfl (show ((23 : Nat) : Int) + 5 = ((28 : Nat) : Int) from rfl) (fun _ => ?_) (fun q => absurd bI_f' q)
      obtain ⟨⟨j1, hj1, rfl⟩, ⟨j2, hj2, rfl⟩⟩ := ht1 hb
      have M1 : MD h1 o S A sl an da dr kn (nI 0) := by
        rw [hb] at M1
        exact M1
      obtain ⟨ss, s1, s2, s3⟩ := M1.slot
      obtain ⟨as, a1, a2, a3⟩ := M1.ans
      obtain ⟨b1, y1, e1, f1, g1, w1, n1⟩ := s3 j1 hj1
      have ly1 : (y1.map vI).length = y1.length := List.length_map _
      obtain ⟨b2, y2, e2, f2, g2, w2, n2⟩ := s3 j2 hj2
      have ly2 : (y2.map vI).length = y2.length := List.length_map _
      have loop : ∀ (d i : Nat), d = y1.length - i → i ≤ y1.length → (∀ q, q < i → sub' y1 q ≠ y2) → ∀ (l : List (Nat × Value)), lsel l [3, 2, 1, 0] = [(3, vI i), (2, vI j2), (1, vI j1), (0, .ref o)] → WR p la e (rmD 3 0 0) s m args below meth c D cA B0 4 (refR o S A kn (aFind (nI j1) (nI j2) (sl, an, da, dr)) h) 30 l [] h1 0 0 := by
        intro d
        induction d with
        | zero =>
          intro i hd hi hne l hl
          have hi2 : i = y1.length := by omega
          subst hi2
          refine WS.sel [3, 2, 1, 0] hl ?_
          repeat refine fst1_ok X (dk rfl) rfl ?_
          refine getf_ok X flX10_11 (dk rfl) M1.obj rfl ?_
          refine fst1_ok X (dk rfl) rfl ?_
          refine ldr_ok X (dk rfl) s2 e1 (by omega) ?_
          refine alen_ok X (by decide) (dk rfl) g1 ?_
          rw [ly1]
          refine br_ok X (dk rfl) rfl (show ((38 : Nat) : Int) + 31 = ((69 : Nat) : Int) from rfl) (fun _ => ?_) (fun c1 => absurd (Int32.le_refl _) c1)
          repeat refine fst1_ok X (dk rfl) rfl ?_
          exact reti_ok X hr hlk rfl (dk rfl) (refR_ok M1 (F1) (by unfold aFind; dsimp only; rw [if_pos (okI_t hj1 (by decide)), if_pos (okI_t hj2 (by decide)), xI_n (by omega), xI_n (by omega), getD_of f1, getD_of f2]; rw [show fdN y1 y2 = none from fsF_no (fun q hq => decide_eq_false (hne q hq))]; first | done | rfl)) (Nat.le_of_ble_eq_true rfl) (Nat.le_of_ble_eq_true rfl)
        | succ d ih =>
          intro i hd hi hne l hl
          obtain ⟨k0, t1, t2, t3, t4⟩ := w1.at (j := i) (by omega)
          have f2v : Value.int (nI i + Int32.ofInt 1) = vI (i + 1) := congrArg Value.int (by rw [nI_1', nI_add])
          refine WS.sel [3, 2, 1, 0] hl ?_
          repeat refine fst1_ok X (dk rfl) rfl ?_
          refine getf_ok X flX10_11 (dk rfl) M1.obj rfl ?_
          refine fst1_ok X (dk rfl) rfl ?_
          refine ldr_ok X (dk rfl) s2 e1 (by omega) ?_
          refine alen_ok X (by decide) (dk rfl) g1 ?_
          rw [ly1]
          refine br_ok X (dk rfl) rfl (show ((38 : Nat) : Int) + 31 = ((69 : Nat) : Int) from rfl) (fun c1 => absurd c1 (nI_ge (by omega) (by omega))) (fun _ => ?_)
          repeat refine fst1_ok X (dk rfl) rfl ?_
          refine getf_ok X flX10_11 (dk rfl) M1.obj rfl ?_
          refine fst1_ok X (dk rfl) rfl ?_
          refine ldr_ok X (dk rfl) s2 e1 (by omega) ?_
          repeat refine fst1_ok X (dk rfl) rfl ?_
          refine getf_ok X flX10_11 (dk rfl) M1.obj rfl ?_
          refine fst1_ok X (dk rfl) rfl ?_
          refine ldr_ok X (dk rfl) s2 e2 (by omega) ?_
          refine fst1_ok X (dk rfl) rfl ?_
          refine callS_ok (av := [.ref b1, vI i, .ref b2, vI 0]) (r := []) X E (c_isAt h1 g1 g2 (by omega) (by omega) w1.lt w2.lt t1 (by rw [List.drop_zero]; exact w2.1)) lkX10_isAt mlX10_70 lsX10_isAt ⟨Nat.le_of_ble_eq_true rfl, Nat.le_of_ble_eq_true rfl⟩ ⟨Nat.le_of_ble_eq_true rfl, Nat.le_of_ble_eq_true rfl⟩ (Nat.le_of_ble_eq_true rfl) (dk rfl) ?_
          rintro v h2 ⟨rfl, rfl⟩
          rw [ite_bI, List.drop_zero, List.take_length]
          have hsub : sub' y1 i = (y1.drop i).take k0 := by unfold sub'; rw [tl_of t1]
          cases hz : decide ((y1.drop i).take k0 = y2) with
          | false =>
            refine br_ok X (dk rfl) rfl (show ((58 : Nat) : Int) + 5 = ((63 : Nat) : Int) from rfl) (fun _ => ?_) (fun q => absurd bI_f' q)
            repeat refine fst1_ok X (dk rfl) rfl ?_
            refine br_ok X (dk rfl) rfl (show ((66 : Nat) : Int) + (-36) = ((30 : Nat) : Int) from rfl) (fun _ => ?_) (fun q => absurd trivial q)
            refine WS.sel (l' := [(3, vI (i + 1)), (2, vI j2), (1, vI j1), (0, .ref o)]) [3, 2, 1, 0] (by rw [← f2v]; rfl) ?_
            exact ih (i + 1) (by omega) (by omega) (fun q hq => by
              rcases Nat.lt_or_ge q i with z | z
              · exact hne q z
              · rw [show q = i by omega, hsub]
                exact of_decide_eq_false hz) _ rfl
          | true =>
            refine br_ok X (dk rfl) rfl (show ((58 : Nat) : Int) + 5 = ((63 : Nat) : Int) from rfl) (fun q => absurd q bI_t) (fun _ => ?_)
            refine fst1_ok X (dk rfl) rfl ?_
            exact reti_ok X hr hlk rfl (dk rfl) (refR_ok M1 (F1) (by unfold aFind; dsimp only; rw [if_pos (okI_t hj1 (by decide)), if_pos (okI_t hj2 (by decide)), xI_n (by omega), xI_n (by omega), getD_of f1, getD_of f2]; rw [show fdN y1 y2 = some i from fsF_at (by omega) (fun q hq => decide_eq_false (hne q hq)) (decide_eq_true (hsub.trans (of_decide_eq_true hz)))]; first | done | rfl)) (Nat.le_of_ble_eq_true rfl) (Nat.le_of_ble_eq_true rfl)
      iterate 2 refine fst1_ok X (dk rfl) rfl ?_
      exact loop _ 0 rfl (Nat.zero_le _) (fun q hq => absurd hq (Nat.not_lt_zero _)) _ rfl
  iterate 2 refine fst1_ok X (dk rfl) rfl ?_
  refine isSlot_ok X E mlX10_95 ⟨Nat.le_of_ble_eq_true rfl, Nat.le_of_ble_eq_true rfl⟩ ⟨Nat.le_of_ble_eq_true rfl, Nat.le_of_ble_eq_true rfl⟩ (Nat.le_of_ble_eq_true rfl) (dk rfl) (fun mid1b0 mid1h0 mid1n0 => ?_)
  cases mid1b0 with
  | false =>
    refine br_ok X (dk rfl) rfl (show ((5 : Nat) : Int) + 10 = ((15 : Nat) : Int) from rfl) (fun _ => ?_) (fun q => absurd bI_f' q)
    refine fst1_ok X (dk rfl) rfl ?_
    refine br_ok X (dk rfl) rfl (show ((16 : Nat) : Int) + 4 = ((20 : Nat) : Int) from rfl) (fun _ => ?_) (fun q => absurd trivial q)
    exact mid1 true (fun z => by cases z) (fun _ hh => absurd (hh.1) (mid1n0 rfl))
  | true =>
    refine br_ok X (dk rfl) rfl (show ((5 : Nat) : Int) + 10 = ((15 : Nat) : Int) from rfl) (fun q => absurd q bI_t) (fun _ => ?_)
    iterate 1 refine fst1_ok X (dk rfl) rfl ?_
    refine isSlot_ok X E mlX10_95 ⟨Nat.le_of_ble_eq_true rfl, Nat.le_of_ble_eq_true rfl⟩ ⟨Nat.le_of_ble_eq_true rfl, Nat.le_of_ble_eq_true rfl⟩ (Nat.le_of_ble_eq_true rfl) (dk rfl) (fun mid1b1 mid1h1 mid1n1 => ?_)
    cases mid1b1 with
    | false =>
      refine br_ok X (dk rfl) rfl (show ((12 : Nat) : Int) + 7 = ((19 : Nat) : Int) from rfl) (fun q => absurd q bI_f) (fun _ => ?_)
      refine fst1_ok X (dk rfl) rfl ?_
      refine br_ok X (dk rfl) rfl (show ((16 : Nat) : Int) + 4 = ((20 : Nat) : Int) from rfl) (fun _ => ?_) (fun q => absurd trivial q)
      exact mid1 true (fun z => by cases z) (fun _ hh => absurd (hh.2) (mid1n1 rfl))
    | true =>
      refine br_ok X (dk rfl) rfl (show ((12 : Nat) : Int) + 7 = ((19 : Nat) : Int) from rfl) (fun _ => ?_) (fun q => absurd bI_t q)
      refine fst1_ok X (dk rfl) rfl ?_
      exact mid1 false (fun _ => ⟨mid1h0 rfl, mid1h1 rfl⟩) (fun z => by cases z)
end R12
