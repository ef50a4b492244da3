/-! the reference's depth, exactly (printed by wip/q/genR4.py) -/
section R17
variable {la : Launch} {D : va_G} {cA : Nat → ClassId} {B0 pa : Nat} {o S A : Nat} {sl : List (List Nat)} {an : List (List (List Nat))} {da dr kn th : Int32}
set_option maxHeartbeats 8000000 in
theorem RF.x_depthOf (h : AH) {a : Nat} {xs : List Nat} (ha : h a = some (IA xs)) (hn : xs.length < 2 ^ 9) (hx : ∀ x ∈ xs, x < 2 ^ 10) : ∀ (f at' k : Nat), endL 1 (xs.drop at') = some k → k ≤ f → CT la D cA B0 pa yX10_depthOf cX10_depthOf 5 (some .int) (rmD (2 + f) 0 0) [.ref a, vI at'] h (fun v h' => v = some (vI (lvM xs at' k)) ∧ h' = h) := by
  intro f
  induction f with
  | zero => intro at' k hk hkf; have := endL_pos (n := 0) hk; omega
  | succ f ihf =>
    intro at' k hk hkf
    refine CT_of (by decide +kernel) (Nat.le_of_ble_eq_true rfl) ?_
    intro p e s m args below meth c X E hr hlk hnm
    have dk : ∀ {pc : Nat} {q : Instr × Nat}, lkd DX10_depthOf pc = some q → decode cX10_depthOf pc = .ok q := lkd_ok DX10_depthOf_ok
    have hat : at' < xs.length := by
      rcases Nat.lt_or_ge at' xs.length with q | q
      · exact q
      · rw [List.drop_eq_nil_of_le q] at hk; simp [endL] at hk
    obtain ⟨x, hx1⟩ : ∃ x, xs[at']? = some x := ⟨xs[at']'hat, by simp⟩
    have hx2 := hx x (List.mem_of_getElem? hx1)
    have hpF : pF x < 2 ^ 10 := by unfold pF; split <;> omega
    have hk' := hk
    rw [drop_cons hx1] at hk'
    simp only [endL, Option.map_eq_some_iff, Nat.zero_add] at hk'
    obtain ⟨k0, hk0, rfl⟩ := hk'
    have hle := endL_le hk
    rw [List.length_drop] at hle
    repeat refine fst1_ok X (dk rfl) rfl ?_
    refine ald_ok X (Or.inl ⟨rfl, rfl⟩) (dk rfl) ha (inA_nI (by omega) (IA_get hx1)) ?_
    refine callS_ok (av := [vI x]) (r := []) X E (c_parts h (by omega)) lkX10_parts mlX10_32 lsX10_parts ⟨by show 0 + 1 ≤ 2 + (f + 1); omega, by show 8 + (1 + 11) + 40 * 0 ≤ 40 * (2 + (f + 1)); omega⟩ ⟨Nat.le_of_ble_eq_true rfl, Nat.le_of_ble_eq_true rfl⟩ (Nat.le_of_ble_eq_true rfl) (dk rfl) ?_
    rintro v h' ⟨rfl, rfl⟩
    have loop : ∀ (nd pl j most : Nat), endL nd (xs.drop pl) = some j → pl + j = at' + (k0 + 1) → at' < pl → (∀ k, at' + 1 ≤ k → k < pl → k + tl xs k ≤ pl) → most = lvM xs (at' + 1) (pl - (at' + 1)) → nd < 2 ^ 10 → ∀ (l : List (Nat × Value)), lsel l [4, 3, 2, 0, 1] = [(4, vI nd), (3, vI pl), (2, vI most), (0, .ref a), (1, vI at')] → WR p la e (rmD (2 + (f + 1)) 0 0) s m args below meth c D cA B0 5 (fun v h'_1 => v = some (vI (lvM xs at' (k0 + 1))) ∧ h'_1 = h') 14 l [] h' 0 0 := by
      intro nd
      induction nd with
      | zero =>
        intro pl j most hj hpj hpl hcl hm hnd l hl
        have hj0 : j = 0 := by
          have z0 : ∀ r : List Nat, endL 0 r = some 0 := fun r => by cases r <;> rfl
          rw [z0] at hj
          exact (Option.some.inj hj).symm
        have em : most + 1 = lvM xs at' (k0 + 1) := by
          rw [lvM_head hk, hm, show pl - (at' + 1) = k0 by omega]
        refine WS.sel [4, 3, 2, 0, 1] hl ?_
        repeat refine fst1_ok X (dk rfl) rfl ?_
        refine br_ok X (dk rfl) rfl (show ((16 : Nat) : Int) + 25 = ((41 : Nat) : Int) from rfl) (fun c1 => ?_) (fun c1 => absurd (show nI 0 ≤ 0 by decide) c1)
        repeat refine fst1_ok X (dk rfl) rfl ?_
        refine reti_ok X hr hlk rfl (dk rfl) ⟨?_, rfl⟩ (Nat.le_refl _) (Nat.le_refl _)
        rw [nI_1', nI_add, em]
        rfl
      | succ nd ih =>
        intro pl j most hj hpj hpl hcl hm hnd l hl
        rw [show nd + 1 = 1 + nd by omega] at hj
        obtain ⟨k1, hk1, hk1j, hk2⟩ := endL_add _ 1 nd j hj
        rw [List.drop_drop] at hk2
        have hk1p := endL_pos (n := 0) hk1
        have hple := endL_le hk1
        rw [List.length_drop] at hple
        have hplt : pl < xs.length := by
          rcases Nat.lt_or_ge pl xs.length with q | q
          · exact q
          · omega
        refine WS.sel [4, 3, 2, 0, 1] hl ?_
        repeat refine fst1_ok X (dk rfl) rfl ?_
        refine br_ok X (dk rfl) rfl (show ((16 : Nat) : Int) + 25 = ((41 : Nat) : Int) from rfl) (fun c1 => absurd c1 (nI_nle (Nat.succ_pos nd) (by omega))) (fun c1 => ?_)
        repeat refine fst1_ok X (dk rfl) rfl ?_
        refine callS_ok (av := [.ref a, vI pl]) (r := [vI most]) X E (ihf pl k1 hk1 (by omega)) lkX10_depthOf mlX10_63 lsX10_depthOf ⟨by show 2 + f + 1 ≤ 2 + (f + 1); omega, by show 8 + (5 + 11) + 40 * (2 + f) ≤ 40 * (2 + (f + 1)); omega⟩ ⟨Nat.le_of_ble_eq_true rfl, Nat.le_of_ble_eq_true rfl⟩ (Nat.le_of_ble_eq_true rfl) (dk rfl) ?_
        rintro v h2 ⟨rfl, rfl⟩
        have m1 : most ≤ xs.length := by rw [hm]; exact mxF_le (fun q hq => by have := lv_le xs (at' + 1) (at' + 1 + q); omega)
        have d1l : lvM xs pl k1 ≤ xs.length := mxF_le (fun q hq => by have := lv_le xs pl (pl + q); omega)
        refine mmax_ok X (by omega) (by omega) mlX10_48 (dk rfl) (by show 1 ≤ 2 + (f + 1); omega) (by show 0 + 13 ≤ 40 * (2 + (f + 1)); omega) (Nat.le_of_ble_eq_true rfl) (Nat.le_of_ble_eq_true rfl) ?_
        repeat refine fst1_ok X (dk rfl) rfl ?_
        refine callS_ok (av := [.ref a, vI pl]) (r := []) X E (c_end h2 ha hx (by omega) hk1) lkX10_end mlX10_36 lsX10_end ⟨by show 1 + 1 ≤ 2 + (f + 1); omega, by show 8 + (4 + 11) + 40 * 1 ≤ 40 * (2 + (f + 1)); omega⟩ ⟨Nat.le_of_ble_eq_true rfl, Nat.le_of_ble_eq_true rfl⟩ (Nat.le_of_ble_eq_true rfl) (dk rfl) ?_
        rintro v h3 ⟨rfl, rfl⟩
        repeat refine fst1_ok X (dk rfl) rfl ?_
        refine br_ok X (dk rfl) rfl (show ((38 : Nat) : Int) + (-24) = ((14 : Nat) : Int) from rfl) (fun _ => ?_) (fun q => absurd trivial q)
        have f2 : Value.int (nI (nd + 1) + Int32.ofInt (-1)) = vI nd := congrArg Value.int (by rw [show Int32.ofInt (-1) = -1 by decide, ← Int32.sub_eq_add_neg]; exact nI_pred nd)
        refine WS.sel (l' := [(4, vI nd), (3, vI (pl + k1)), (2, vI (max most (lvM xs pl k1))), (0, .ref a), (1, vI at')]) [4, 3, 2, 0, 1] (by rw [← f2]; rfl) ?_
        exact ih (pl + k1) (j - k1) (max most (lvM xs pl k1)) hk2 (by omega) (by omega) (fun q q1 q2 => by
          rcases Nat.lt_or_ge q pl with z | z
          · have := hcl q q1 z
            omega
          · exact (nested hk1 z q2).2.2) (by
          have e1 : pl + k1 - (at' + 1) = (pl - (at' + 1)) + k1 := by omega
          have e2 : at' + 1 + (pl - (at' + 1)) = pl := by omega
          rw [e1, lvM_app (fun q q1 q2 => by rw [e2]; exact hcl q q1 (by omega)), e2, ← hm]) (by omega) _ rfl
    iterate 1 refine fst1_ok X (dk rfl) rfl ?_
    refine loop (pF x) (at' + 1) k0 0 hk0 (by omega) (by omega) (fun q q1 q2 => by omega) (by rw [Nat.sub_self]; rfl) hpF _ ?_
    rw [show vI (at' + 1) = Value.int (nI at' + Int32.ofInt 1) by rw [nI_1', nI_add]; rfl]
    rfl
set_option maxHeartbeats 4000000 in
theorem RF.x_depth (h : AH) (M : MD h o S A sl an da dr kn th) (x1 : Int32) : CT la D cA B0 pa yX10_depth cX10_depth 2 (some .int) (rmD 19 0 0) [.ref o, .int x1] h (refR o S A kn (aDepth x1 (sl, an, da, dr)) h) := by
  refine CT_of (by decide +kernel) (Nat.le_of_ble_eq_true rfl) ?_
  intro p e s m args below meth c X E hr hlk hnm
  have dk : ∀ {pc : Nat} {q : Instr × Nat}, lkd DX10_depth pc = some q → decode cX10_depth pc = .ok q := lkd_ok DX10_depth_ok
  have mid1 : ∀ t1 : Bool, (t1 = false → inN 6 x1) → (t1 = true → ¬ (inN 6 x1)) → WR p la e (rmD 19 0 0) s m args below meth c D cA B0 2 (refR o S A kn (aDepth x1 (sl, an, da, dr)) h) 13 (lv_args 0 [.ref o, .int x1]) [.int (bI t1), .ref o] h 0 0 := by
    intro t1 ht1 hn1
    refine thr1_ok X E M ⟨Nat.le_of_ble_eq_true rfl, Nat.le_of_ble_eq_true rfl⟩ ⟨Nat.le_of_ble_eq_true rfl, Nat.le_of_ble_eq_true rfl⟩ (Nat.le_of_ble_eq_true rfl) (dk rfl) (fun h1 M1 F1 => ?_)
    cases hb : t1 with
    | true =>
      have hT1 : ¬ (inN 6 x1) → aDepth x1 (sl, an, da, dr) = ((1, 0), (sl, an, da, dr)) := (fun hn => by
          unfold aDepth
          by_cases q0 : okI 6 x1 = true
          rotate_left
          · exact if_neg q0
          rw [if_pos q0]
          exact absurd (okI_in (by decide) q0) hn)
      have hE : aDepth x1 (sl, an, da, dr) = ((thI t1 false, 0), (sl, an, da, dr)) := by
        rw [hb]
        exact hT1 (hn1 hb)
      refine br_ok X (dk rfl) rfl (show ((16 : Nat) : Int) + 7 = ((23 : Nat) : Int) from rfl) (fun q => absurd q bI_t) (fun _ => ?_)
      refine fst1_ok X (dk rfl) rfl ?_
      refine br_ok X (dk rfl) rfl (show ((20 : Nat) : Int) + 13 = ((33 : Nat) : Int) from rfl) (fun _ => ?_) (fun q => absurd trivial q)
      exact reti_ok X hr hlk rfl (dk rfl) (refR_thr M1 F1 hE (by decide +kernel)) (Nat.zero_le _) (Nat.zero_le _)
    | false =>
      refine br_ok X (dk rfl) rfl (show ((16 : Nat) : Int) + 7 = ((23 : Nat) : Int) from rfl) (fun _ => ?_) (fun q => absurd bI_f' q)
      obtain ⟨j1, hj1, rfl⟩ := ht1 hb
      have M1 : MD h1 o S A sl an da dr kn (nI 0) := by
        rw [hb] at M1
        exact M1
      obtain ⟨ss, s1, s2, s3⟩ := M1.slot
      obtain ⟨as, a1, a2, a3⟩ := M1.ans
      obtain ⟨b1, y1, e1, f1, g1, w1, n1⟩ := s3 j1 hj1
      have ly1 : (y1.map vI).length = y1.length := List.length_map _
      repeat refine fst1_ok X (dk rfl) rfl ?_
      refine getf_ok X flX10_11 (dk rfl) M1.obj rfl ?_
      refine fst1_ok X (dk rfl) rfl ?_
      refine ldr_ok X (dk rfl) s2 e1 (by omega) ?_
      repeat refine fst1_ok X (dk rfl) rfl ?_
      refine callS_ok (av := [.ref b1, vI 0]) (r := []) X E (x_depthOf h1 g1 (by omega) w1.lt 16 0 y1.length (by rw [List.drop_zero]; exact w1.1) n1) lkX10_depthOf mlX10_63 lsX10_depthOf ⟨Nat.le_of_ble_eq_true rfl, Nat.le_of_ble_eq_true rfl⟩ ⟨Nat.le_of_ble_eq_true rfl, Nat.le_of_ble_eq_true rfl⟩ (Nat.le_of_ble_eq_true rfl) (dk rfl) ?_
      rintro v h2 ⟨rfl, rfl⟩
      exact reti_ok X hr hlk rfl (dk rfl) (refR_ok M1 (F1) (by unfold aDepth; dsimp only; rw [if_pos (okI_t hj1 (by decide)), xI_n (by omega), getD_of f1]; first | done | rfl)) (Nat.le_of_ble_eq_true rfl) (Nat.le_of_ble_eq_true rfl)
  iterate 2 refine fst1_ok X (dk rfl) rfl ?_
  refine isSlot_ok X E mlX10_95 ⟨Nat.le_of_ble_eq_true rfl, Nat.le_of_ble_eq_true rfl⟩ ⟨Nat.le_of_ble_eq_true rfl, Nat.le_of_ble_eq_true rfl⟩ (Nat.le_of_ble_eq_true rfl) (dk rfl) (fun mid1b0 mid1h0 mid1n0 => ?_)
  cases mid1b0 with
  | false =>
    refine br_ok X (dk rfl) rfl (show ((5 : Nat) : Int) + 7 = ((12 : Nat) : Int) from rfl) (fun q => absurd q bI_f) (fun _ => ?_)
    refine fst1_ok X (dk rfl) rfl ?_
    refine br_ok X (dk rfl) rfl (show ((9 : Nat) : Int) + 4 = ((13 : Nat) : Int) from rfl) (fun _ => ?_) (fun q => absurd trivial q)
    exact mid1 true (fun z => by cases z) (fun _ hh => absurd (hh) (mid1n0 rfl))
  | true =>
    refine br_ok X (dk rfl) rfl (show ((5 : Nat) : Int) + 7 = ((12 : Nat) : Int) from rfl) (fun _ => ?_) (fun q => absurd bI_t q)
    refine fst1_ok X (dk rfl) rfl ?_
    exact mid1 false (fun _ => mid1h0 rfl) (fun z => by cases z)
end R17
