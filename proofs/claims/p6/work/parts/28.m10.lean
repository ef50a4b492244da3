/-! often, depthOf, isMet, sharedOf: what they answer is only said to be a number -/
def intP (h : AH) (v : Option Value) (h' : AH) : Prop := (∃ x : Int32, v = some (.int x)) ∧ h' = h
def booP (h : AH) (v : Option Value) (h' : AH) : Prop := (v = some (.int 0) ∨ v = some (.int 1)) ∧ h' = h
section M12
variable {la : Launch} {D : va_G} {cA : Nat → ClassId} {B0 pa : Nat}
set_option maxHeartbeats 8000000 in
theorem c_often (h : AH) {a : Nat} {xs : List Nat} (y : Int32) (ha : h a = some (IA xs)) (hn : xs.length < 2 ^ 9) : CT la D cA B0 pa yX10_often cX10_often 7 (some .int) (rmD 0 0 0) [.ref a, .int y] h (intP h) := by
  refine CT_of (by decide +kernel) (Nat.le_of_ble_eq_true rfl) ?_
  intro p e s m args below meth c X E hr hlk hnm
  have dk : ∀ {pc : Nat} {q : Instr × Nat}, lkd DX10_often pc = some q → decode cX10_often pc = .ok q := lkd_ok DX10_often_ok
  have la' : (xs.map vI).length = xs.length := List.length_map _
  repeat refine fst1_ok X (dk rfl) rfl ?_
  refine alen_ok X (by decide) (dk rfl) ha ?_
  rw [la']
  have loop : ∀ (d j : Nat), d = xs.length - j → j ≤ xs.length → ∀ (z : Int32) (l : List (Nat × Value)), lsel l [5, 4, 3, 2, 0, 1] = [(5, vI j), (4, vI xs.length), (3, .ref a), (2, .int z), (0, .ref a), (1, .int y)] → WR p la e (rmD 0 0 0) s m args below meth c D cA B0 7 (intP h) 11 l [] h 0 0 := by
    intro d
    induction d with
    | zero =>
      intro j hd hj z l hl
      have hj2 : j = xs.length := by omega
      subst hj2
      refine WS.sel [5, 4, 3, 2, 0, 1] hl ?_
      repeat refine fst1_ok X (dk rfl) rfl ?_
      refine br_ok X (dk rfl) rfl (show ((15 : Nat) : Int) + 29 = ((44 : Nat) : Int) from rfl) (fun c1 => ?_) (fun c1 => absurd (Int32.le_refl _) c1)
      repeat refine fst1_ok X (dk rfl) rfl ?_
      exact reti_ok X hr hlk rfl (dk rfl) ⟨⟨_, rfl⟩, rfl⟩ (Nat.le_refl _) (Nat.le_refl _)
    | succ d ih =>
      intro j hd hj z l hl
      obtain ⟨x, hx1⟩ : ∃ x, xs[j]? = some x := ⟨xs[j]'(by omega), by simp⟩
      refine WS.sel [5, 4, 3, 2, 0, 1] hl ?_
      repeat refine fst1_ok X (dk rfl) rfl ?_
      refine br_ok X (dk rfl) rfl (show ((15 : Nat) : Int) + 29 = ((44 : Nat) : Int) from rfl) (fun c1 => absurd c1 (nI_ge (by omega) (by omega))) (fun c1 => ?_)
      repeat refine fst1_ok X (dk rfl) rfl ?_
      refine ald_ok X (Or.inl ⟨rfl, rfl⟩) (dk rfl) ha (inA_nI (by omega) (IA_get hx1)) ?_
      have f2 : Value.int (nI j + Int32.ofInt 1) = vI (j + 1) := congrArg Value.int (by rw [nI_1', nI_add])
      have back : ∀ (w : Int32) (l : List (Nat × Value)), lsel l [5, 4, 3, 0, 1] = [(5, vI j), (4, vI xs.length), (3, .ref a), (0, .ref a), (1, .int y)] → WR p la e (rmD 0 0 0) s m args below meth c D cA B0 7 (intP h) 36 l [.int w, .int z] h 0 0 := by
        intro w l hl
        refine WS.sel [5, 4, 3, 0, 1] hl ?_
        repeat refine fst1_ok X (dk rfl) rfl ?_
        refine br_ok X (dk rfl) rfl (show ((41 : Nat) : Int) + (-30) = ((11 : Nat) : Int) from rfl) (fun _ => ?_) (fun q => absurd trivial q)
        refine WS.sel (l' := [(5, vI (j + 1)), (4, vI xs.length), (3, .ref a), (2, .int (z + w)), (0, .ref a), (1, .int y)]) [5, 4, 3, 2, 0, 1] (by rw [← f2]; rfl) ?_
        exact ih (j + 1) (by omega) (by omega) _ _ rfl
      repeat refine fst1_ok X (dk rfl) rfl ?_
      refine br_ok X (dk rfl) rfl (show ((28 : Nat) : Int) + 7 = ((35 : Nat) : Int) from rfl) (fun c2 => ?_) (fun c2 => ?_)
      · refine fst1_ok X (dk rfl) rfl ?_
        exact back _ _ rfl
      · refine fst1_ok X (dk rfl) rfl ?_
        refine br_ok X (dk rfl) rfl (show ((32 : Nat) : Int) + 4 = ((36 : Nat) : Int) from rfl) (fun _ => ?_) (fun q => absurd trivial q)
        exact back _ _ rfl
  iterate 3 refine fst1_ok X (dk rfl) rfl ?_
  exact loop _ 0 rfl (Nat.zero_le _) _ _ rfl
set_option maxHeartbeats 8000000 in
theorem c_depthOf (h : AH) {a : Nat} {xs : List Nat} (ha : h a = some (IA xs)) (hn : xs.length < 2 ^ 9) (hx : ∀ x ∈ xs, x < 2 ^ 10) : ∀ (f at' k : Nat), endL 1 (xs.drop at') = some k → k ≤ f → CT la D cA B0 pa yX10_depthOf cX10_depthOf 5 (some .int) (rmD (2 + f) 0 0) [.ref a, vI at'] h (fun v h' => (∃ d, v = some (vI d) ∧ d ≤ k) ∧ h' = h) := by
  intro f
  induction f with
  | zero => intro at' k hk hkf; have := endL_pos (n := 0) hk; omega
  | succ f ihf =>
    intro at' k hk hkf
    refine CT_of (by decide +kernel) (Nat.le_of_ble_eq_true rfl) ?_
    intro p e s m args below meth c X E hr hlk hnm
    have dk : ∀ {pc : Nat} {q : Instr × Nat}, lkd DX10_depthOf pc = some q → decode cX10_depthOf pc = .ok q := lkd_ok DX10_depthOf_ok
    have hat : at' < xs.length := by
      rcases Nat.lt_or_ge at' xs.length with q | q
      · exact q
      · rw [List.drop_eq_nil_of_le q] at hk; simp [endL] at hk
    obtain ⟨x, hx1⟩ : ∃ x, xs[at']? = some x := ⟨xs[at']'hat, by simp⟩
    have hx2 := hx x (List.mem_of_getElem? hx1)
    have hpF : pF x < 2 ^ 10 := by unfold pF; split <;> omega
    have hk' := hk
    rw [drop_cons hx1] at hk'
    simp only [endL, Option.map_eq_some_iff, Nat.zero_add] at hk'
    obtain ⟨k0, hk0, rfl⟩ := hk'
    have hle := endL_le hk
    rw [List.length_drop] at hle
    repeat refine fst1_ok X (dk rfl) rfl ?_
    refine ald_ok X (Or.inl ⟨rfl, rfl⟩) (dk rfl) ha (inA_nI (by omega) (IA_get hx1)) ?_
    refine callS_ok (av := [vI x]) (r := []) X E (c_parts h (by omega)) lkX10_parts mlX10_32 lsX10_parts ⟨by show 0 + 1 ≤ 2 + (f + 1); omega, by show 8 + (1 + 11) + 40 * 0 ≤ 40 * (2 + (f + 1)); omega⟩ ⟨Nat.le_of_ble_eq_true rfl, Nat.le_of_ble_eq_true rfl⟩ (Nat.le_of_ble_eq_true rfl) (dk rfl) ?_
    rintro v h' ⟨rfl, rfl⟩
    have loop : ∀ (nd pl j most : Nat), endL nd (xs.drop pl) = some j → pl + j = at' + (k0 + 1) → at' < pl → most ≤ k0 → nd < 2 ^ 10 → ∀ (l : List (Nat × Value)), lsel l [4, 3, 2, 0, 1] = [(4, vI nd), (3, vI pl), (2, vI most), (0, .ref a), (1, vI at')] → WR p la e (rmD (2 + (f + 1)) 0 0) s m args below meth c D cA B0 5 (fun v h'_1 => (∃ d, v = some (vI d) ∧ d ≤ k0 + 1) ∧ h'_1 = h') 14 l [] h' 0 0 := by
      intro nd
      induction nd with
      | zero =>
        intro pl j most hj hpj hpl hm hnd l hl
        refine WS.sel [4, 3, 2, 0, 1] hl ?_
        repeat refine fst1_ok X (dk rfl) rfl ?_
        refine br_ok X (dk rfl) rfl (show ((16 : Nat) : Int) + 25 = ((41 : Nat) : Int) from rfl) (fun c1 => ?_) (fun c1 => absurd (show nI 0 ≤ 0 by decide) c1)
        repeat refine fst1_ok X (dk rfl) rfl ?_
        refine reti_ok X hr hlk rfl (dk rfl) ⟨⟨most + 1, ?_, by omega⟩, rfl⟩ (Nat.le_refl _) (Nat.le_refl _)
        rw [nI_1', nI_add]
        rfl
      | succ nd ih =>
        intro pl j most hj hpj hpl hm hnd l hl
        rw [show nd + 1 = 1 + nd by omega] at hj
        obtain ⟨k1, hk1, hk1j, hk2⟩ := endL_add _ 1 nd j hj
        rw [List.drop_drop] at hk2
        have hk1p := endL_pos (n := 0) hk1
        have hple := endL_le hk1
        rw [List.length_drop] at hple
        have hplt : pl < xs.length := by
          rcases Nat.lt_or_ge pl xs.length with q | q
          · exact q
          · omega
        refine WS.sel [4, 3, 2, 0, 1] hl ?_
        repeat refine fst1_ok X (dk rfl) rfl ?_
        refine br_ok X (dk rfl) rfl (show ((16 : Nat) : Int) + 25 = ((41 : Nat) : Int) from rfl) (fun c1 => absurd c1 (nI_nle (Nat.succ_pos nd) (by omega))) (fun c1 => ?_)
        repeat refine fst1_ok X (dk rfl) rfl ?_
        refine callS_ok (av := [.ref a, vI pl]) (r := [vI most]) X E (ihf pl k1 hk1 (by omega)) lkX10_depthOf mlX10_63 lsX10_depthOf ⟨by show 2 + f + 1 ≤ 2 + (f + 1); omega, by show 8 + (5 + 11) + 40 * (2 + f) ≤ 40 * (2 + (f + 1)); omega⟩ ⟨Nat.le_of_ble_eq_true rfl, Nat.le_of_ble_eq_true rfl⟩ (Nat.le_of_ble_eq_true rfl) (dk rfl) ?_
        rintro v h2 ⟨⟨d1, rfl, hd1⟩, rfl⟩
        refine mmax_ok X (by omega) (by omega) mlX10_48 (dk rfl) (by show 1 ≤ 2 + (f + 1); omega) (by show 0 + 13 ≤ 40 * (2 + (f + 1)); omega) (Nat.le_of_ble_eq_true rfl) (Nat.le_of_ble_eq_true rfl) ?_
        repeat refine fst1_ok X (dk rfl) rfl ?_
        refine callS_ok (av := [.ref a, vI pl]) (r := []) X E (c_end h2 ha hx (by omega) hk1) lkX10_end mlX10_36 lsX10_end ⟨by show 1 + 1 ≤ 2 + (f + 1); omega, by show 8 + (4 + 11) + 40 * 1 ≤ 40 * (2 + (f + 1)); omega⟩ ⟨Nat.le_of_ble_eq_true rfl, Nat.le_of_ble_eq_true rfl⟩ (Nat.le_of_ble_eq_true rfl) (dk rfl) ?_
        rintro v h3 ⟨rfl, rfl⟩
        repeat refine fst1_ok X (dk rfl) rfl ?_
        refine br_ok X (dk rfl) rfl (show ((38 : Nat) : Int) + (-24) = ((14 : Nat) : Int) from rfl) (fun _ => ?_) (fun q => absurd trivial q)
        have f2 : Value.int (nI (nd + 1) + Int32.ofInt (-1)) = vI nd := congrArg Value.int (by rw [show Int32.ofInt (-1) = -1 by decide, ← Int32.sub_eq_add_neg]; exact nI_pred nd)
        refine WS.sel (l' := [(4, vI nd), (3, vI (pl + k1)), (2, vI (max most d1)), (0, .ref a), (1, vI at')]) [4, 3, 2, 0, 1] (by rw [← f2]; rfl) ?_
        exact ih (pl + k1) (j - k1) (max most d1) hk2 (by omega) (by omega) (by omega) (by omega) _ rfl
    iterate 1 refine fst1_ok X (dk rfl) rfl ?_
    refine loop (pF x) (at' + 1) k0 0 hk0 (by omega) (by omega) (Nat.zero_le _) hpF _ ?_
    rw [show vI (at' + 1) = Value.int (nI at' + Int32.ofInt 1) by rw [nI_1', nI_add]; rfl]
    rfl
end M12
