/-! isWithin, bind -/
section M49
variable {la : Launch} {D : va_G} {cA : Nat → ClassId} {B0 pa : Nat} {o9 St : Nat} {sm : SM} {mm ww : Nat}
set_option maxHeartbeats 8000000 in
theorem c_isWithin (h : AH) (M : SI h o9 St sm mm ww) {u x : Nat} {t : List Nat} (hx : x < 8) (hu : h u = some (IA t)) (ht : TW t ∧ t.length ≤ 16) : CT la D cA B0 pa yX9_isWithin cX9_isWithin 6 (some .boolean) (rmD 1 0 0) [.ref o9, vI x, .ref u] h (fun v h' => v = some (.int (bI (isWi sm x t))) ∧ h' = h) := by
  refine CT_of (by decide +kernel) (Nat.le_of_ble_eq_true rfl) ?_
  intro p e s m args below meth c X E hr hlk hnm
  have dk : ∀ {pc : Nat} {q : Instr × Nat}, lkd DX9_isWithin pc = some q → decode cX9_isWithin pc = .ok q := lkd_ok DX9_isWithin_ok
  have hT := M.2.2.1
  have h0 := namesN_lt ht.1.2
  have fin9 : ∀ (l : List (Nat × Value)), lsel l [3, 1] = [(3, vI (wAll sm (namesN t) 8)), (1, vI x)] → WR p la e (rmD 1 0 0) s m args below meth c D cA B0 6 (fun v h' => v = some (.int (bI (isWi sm x t))) ∧ h' = h) 70 l [] h 0 0 := by
    intro l hl
    have h8 := wAll_lt hT h0 8
    refine WS.sel [3, 1] hl ?_
    repeat refine fst1_ok X (dk rfl) rfl ?_
    rw [bit8 h8 hx]
    have hw : isWi sm x t = decide (wAll sm (namesN t) 8 >>> x % 2 = 1) := rfl
    rcases Nat.mod_two_eq_zero_or_one (wAll sm (namesN t) 8 >>> x) with q | q
    · rw [hw, q]
      refine br_ok X (dk rfl) rfl (show ((76 : Nat) : Int) + 7 = ((83 : Nat) : Int) from rfl) (fun _ => ?_) (fun q => absurd (by decide) q)
      repeat refine fst1_ok X (dk rfl) rfl ?_
      exact reti_ok X hr hlk (bI_n false) (dk rfl) ⟨rfl, rfl⟩ (Nat.le_refl _) (Nat.le_refl _)
    · rw [hw, q]
      refine br_ok X (dk rfl) rfl (show ((76 : Nat) : Int) + 7 = ((83 : Nat) : Int) from rfl) (fun q => absurd rfl q) (fun _ => ?_)
      repeat refine fst1_ok X (dk rfl) rfl ?_
      refine br_ok X (dk rfl) rfl (show ((80 : Nat) : Int) + 4 = ((84 : Nat) : Int) from rfl) (fun _ => ?_) (fun q => absurd trivial q)
      exact reti_ok X hr hlk (bI_n true) (dk rfl) ⟨rfl, rfl⟩ (Nat.le_refl _) (Nat.le_refl _)
  have outer : ∀ (d j : Nat), d = 8 - j → j ≤ 8 → ∀ (l : List (Nat × Value)), lsel l [4, 3, 1, 0] = [(4, vI j), (3, vI (wAll sm (namesN t) j)), (1, vI x), (0, .ref o9)] → WR p la e (rmD 1 0 0) s m args below meth c D cA B0 6 (fun v h' => v = some (.int (bI (isWi sm x t))) ∧ h' = h) 8 l [] h 0 0 := by
    intro d
    induction d with
    | zero =>
      intro j hd hj l hl
      have hj2 : j = 8 := by omega
      subst hj2
      refine WS.sel [4, 3, 1, 0] hl ?_
      repeat refine fst1_ok X (dk rfl) rfl ?_
      refine br_ok X (dk rfl) rfl (show ((12 : Nat) : Int) + 58 = ((70 : Nat) : Int) from rfl) (fun _ => ?_) (fun c1 => absurd (by decide) c1)
      exact fin9 _ rfl
    | succ d ih =>
      intro j hd hj l hl
      have hj8 := wAll_lt hT h0 j
      have inner : ∀ (d2 i : Nat), d2 = 8 - i → i ≤ 8 → ∀ (l : List (Nat × Value)), lsel l [5, 4, 3, 1, 0] = [(5, vI i), (4, vI j), (3, vI (wRow sm (wAll sm (namesN t) j) i)), (1, vI x), (0, .ref o9)] → WR p la e (rmD 1 0 0) s m args below meth c D cA B0 6 (fun v h' => v = some (.int (bI (isWi sm x t))) ∧ h' = h) 18 l [] h 0 0 := by
        intro d2
        induction d2 with
        | zero =>
          intro i hd2 hi l hl
          have hi2 : i = 8 := by omega
          subst hi2
          have f2 : Value.int (nI j + Int32.ofInt 1) = vI (j + 1) := congrArg Value.int (by rw [nI_1', nI_add])
          refine WS.sel [5, 4, 3, 1, 0] hl ?_
          repeat refine fst1_ok X (dk rfl) rfl ?_
          refine br_ok X (dk rfl) rfl (show ((22 : Nat) : Int) + 42 = ((64 : Nat) : Int) from rfl) (fun _ => ?_) (fun c1 => absurd (by decide) c1)
          repeat refine fst1_ok X (dk rfl) rfl ?_
          refine br_ok X (dk rfl) rfl (show ((67 : Nat) : Int) + (-59) = ((8 : Nat) : Int) from rfl) (fun _ => ?_) (fun q => absurd trivial q)
          refine WS.sel (l' := [(4, vI (j + 1)), (3, vI (wAll sm (namesN t) (j + 1))), (1, vI x), (0, .ref o9)]) [4, 3, 1, 0] (by rw [← f2]; rfl) ?_
          exact ih (j + 1) (by omega) (by omega) _ rfl
        | succ d2 ih2 =>
          intro i hd2 hi l hl
          have hi8 := wRow_lt hT hj8 i
          have es : wRow sm (wAll sm (namesN t) j) (i + 1) = wStep sm (wRow sm (wAll sm (namesN t) j) i) i := rfl
          generalize wRow sm (wAll sm (namesN t) j) i = z at hi8 es hl
          unfold wStep at es
          have f2 : Value.int (nI i + Int32.ofInt 1) = vI (i + 1) := congrArg Value.int (by rw [nI_1', nI_add])
          have go9 : ∀ (w : Nat) (l : List (Nat × Value)), wRow sm (wAll sm (namesN t) j) (i + 1) = w → lsel l [5, 4, 3, 1, 0] = [(5, vI i), (4, vI j), (3, vI w), (1, vI x), (0, .ref o9)] → WR p la e (rmD 1 0 0) s m args below meth c D cA B0 6 (fun v h' => v = some (.int (bI (isWi sm x t))) ∧ h' = h) 58 l [] h 0 0 := by
            intro w l hw hl
            refine WS.sel [5, 4, 3, 1, 0] hl ?_
            repeat refine fst1_ok X (dk rfl) rfl ?_
            refine br_ok X (dk rfl) rfl (show ((61 : Nat) : Int) + (-43) = ((18 : Nat) : Int) from rfl) (fun _ => ?_) (fun q => absurd trivial q)
            refine WS.sel (l' := [(5, vI (i + 1)), (4, vI j), (3, vI (wRow sm (wAll sm (namesN t) j) (i + 1))), (1, vI x), (0, .ref o9)]) [5, 4, 3, 1, 0] (by rw [hw, ← f2]; rfl) ?_
            exact ih2 (i + 1) (by omega) (by omega) _ rfl
          obtain ⟨os, ov, t1, t2, t3, t4⟩ := M.2.1.get (x := i) (by omega)
          refine WS.sel [5, 4, 3, 1, 0] hl ?_
          repeat refine fst1_ok X (dk rfl) rfl ?_
          refine br_ok X (dk rfl) rfl (show ((22 : Nat) : Int) + 42 = ((64 : Nat) : Int) from rfl) (fun c1 => absurd c1 (nI_ge (a := i) (b := 8) (by omega) (by omega))) (fun _ => ?_)
          repeat refine fst1_ok X (dk rfl) rfl ?_
          rw [bit8 hi8 (by omega)]
          rcases Nat.mod_two_eq_zero_or_one (z >>> i) with q | q
          · rw [q]
            rw [if_neg (by omega)] at es
            refine br_ok X (dk rfl) rfl (show ((32 : Nat) : Int) + 26 = ((58 : Nat) : Int) from rfl) (fun _ => ?_) (fun q => absurd (by decide) q)
            exact go9 z _ es rfl
          · rw [q]
            rw [if_pos q] at es
            refine br_ok X (dk rfl) rfl (show ((32 : Nat) : Int) + 26 = ((58 : Nat) : Int) from rfl) (fun q => absurd rfl q) (fun _ => ?_)
            refine fst1_ok X (dk rfl) rfl ?_
            refine getf_ok X flX9_11 (dk rfl) M.1 rfl ?_
            refine fst1_ok X (dk rfl) rfl ?_
            refine ald_ok X (Or.inr (Or.inr ⟨rfl, by decide⟩)) (dk rfl) t1 (inA_nI (v := va_rf ov) (by omega) (by rw [List.getElem?_map, t3]; rfl)) ?_
            rcases t4 with ⟨rfl, e1⟩ | ⟨b, t', rfl, e1, e2⟩
            · rw [e1] at es
              refine br_ok X (dk rfl) rfl (show ((42 : Nat) : Int) + 16 = ((58 : Nat) : Int) from rfl) (fun _ => ?_) (fun c3 => absurd trivial c3)
              exact go9 z _ es rfl
            · rw [e1] at es
              have tt := hT.get e1
              refine br_ok X (dk rfl) rfl (show ((42 : Nat) : Int) + 16 = ((58 : Nat) : Int) from rfl) (fun c3 => absurd c3 (fun z => z)) (fun _ => ?_)
              repeat refine fst1_ok X (dk rfl) rfl ?_
              refine getf_ok X flX9_11 (dk rfl) M.1 rfl ?_
              refine fst1_ok X (dk rfl) rfl ?_
              refine ald_ok X (Or.inr (Or.inr ⟨rfl, by decide⟩)) (dk rfl) t1 (inA_nI (v := .ref b) (by omega) (by rw [List.getElem?_map, t3]; rfl)) ?_
              refine callSN_ok (av := [.ref b]) (r := [vI z]) X E (c_namesOf h e2 (by omega) tt.1.lt) lkX10_namesOf mnX9_21 lsX10_namesOf ⟨Nat.le_of_ble_eq_true rfl, Nat.le_of_ble_eq_true rfl⟩ ⟨Nat.le_of_ble_eq_true rfl, Nat.le_of_ble_eq_true rfl⟩ (Nat.le_of_ble_eq_true rfl) (dk rfl) ?_
              rintro v h' ⟨rfl, rfl⟩
              iterate 2 refine fst1_ok X (dk rfl) rfl ?_
              exact go9 (z ||| namesN t') _ es (by rw [nI_or]; rfl)
      refine WS.sel [4, 3, 1, 0] hl ?_
      repeat refine fst1_ok X (dk rfl) rfl ?_
      refine br_ok X (dk rfl) rfl (show ((12 : Nat) : Int) + 58 = ((70 : Nat) : Int) from rfl) (fun c1 => absurd c1 (nI_ge (a := j) (b := 8) (by omega) (by omega))) (fun _ => ?_)
      iterate 2 refine fst1_ok X (dk rfl) rfl ?_
      exact inner 8 0 rfl (Nat.zero_le _) _ rfl
  refine fst1_ok X (dk rfl) rfl ?_
  refine callSN_ok (av := [.ref u]) (r := []) X E (c_namesOf h hu (by omega) ht.1.lt) lkX10_namesOf mnX9_21 lsX10_namesOf ⟨Nat.le_of_ble_eq_true rfl, Nat.le_of_ble_eq_true rfl⟩ ⟨Nat.le_of_ble_eq_true rfl, Nat.le_of_ble_eq_true rfl⟩ (Nat.le_of_ble_eq_true rfl) (dk rfl) ?_
  rintro v h' ⟨rfl, rfl⟩
  iterate 3 refine fst1_ok X (dk rfl) rfl ?_
  exact outer 8 0 rfl (Nat.zero_le _) _ rfl
/-- a place gets a row -/
theorem SI.put {h : AH} (M : SI h o9 St sm mm ww) {x q : Nat} {r : List Nat} (hx : x < 8) (hq : h q = some (IA r)) (hr : TW r ∧ r.length ≤ 16) : ∃ vs, h St = some (105, vs) ∧ vs.length = 8 ∧ SI (hup h St (105, vs.set x (.ref q))) o9 St (sm.set x (some r)) mm ww := by
  obtain ⟨m1, m2, m3, m4⟩ := M
  obtain ⟨vs, h1, h2, h3⟩ := m2.put hq hx
  exact ⟨vs, h1, h2, by rw [hup_ne _ _ (k_ne m1 h1 (by decide))]; exact m1, h3, m3.set hr, m4⟩
def goP (o9 St : Nat) (h : AH) (g : GS) (v : Option Value) (h' : AH) : Prop := v = none ∧ SI h' o9 St g.1 g.2.1 g.2.2.1 ∧ Fs o9 St h h'
theorem c_bind (h : AH) (M : SI h o9 St sm mm ww) {u x : Nat} {t : List Nat} (hx : x < 8) (hu : h u = some (IA t)) (ht : TW t ∧ t.length ≤ 16) : CT la D cA B0 pa yX9_bind cX9_bind 3 none (rmD 2 0 0) [.ref o9, vI x, .ref u] h (goP o9 St h (bindF sm mm ww x t)) := by
  refine CT_of (by decide +kernel) (Nat.le_of_ble_eq_true rfl) ?_
  intro p e s m args below meth c X E hr hlk hnm
  have dk : ∀ {pc : Nat} {q : Instr × Nat}, lkd DX9_bind pc = some q → decode cX9_bind pc = .ok q := lkd_ok DX9_bind_ok
  repeat refine fst1_ok X (dk rfl) rfl ?_
  refine callV_ok (ci := 11) (T := TX9) (N := 3) (av := [vI x, .ref u]) (r := []) X E (c_isWithin h M hx hu ht) lkX9_isWithin mlX9_49 lmX9_isWithin lpX9_isWithin ⟨Nat.le_of_ble_eq_true rfl, Nat.le_of_ble_eq_true rfl⟩ ⟨Nat.le_of_ble_eq_true rfl, Nat.le_of_ble_eq_true rfl⟩ rfl M.1 (Nat.le_of_ble_eq_true rfl) (dk rfl) ?_
  rintro v h' ⟨rfl, rfl⟩
  unfold bindF
  cases hw : isWi sm x t with
  | true =>
    refine br_ok X (dk rfl) rfl (show ((6 : Nat) : Int) + 11 = ((17 : Nat) : Int) from rfl) (fun q => absurd q bI_t) (fun _ => ?_)
    repeat refine fst1_ok X (dk rfl) rfl ?_
    refine putf_ok X flX9_25 ftX9_2 (Or.inl rfl) rfl rfl (dk rfl) M.1 (Nat.le_of_ble_eq_true rfl) ?_
    refine br_ok X (dk rfl) rfl (show ((14 : Nat) : Int) + 10 = ((24 : Nat) : Int) from rfl) (fun _ => ?_) (fun q => absurd trivial q)
    exact retv_ok X hr hlk (dk rfl) ⟨rfl, M.fld mm 2 (by decide), (Fs.rf h').set (Or.inl rfl) _⟩ (Nat.le_refl _) (Nat.le_refl _)
  | false =>
    refine br_ok X (dk rfl) rfl (show ((6 : Nat) : Int) + 11 = ((17 : Nat) : Int) from rfl) (fun _ => ?_) (fun q => absurd bI_f' q)
    refine fst1_ok X (dk rfl) rfl ?_
    refine getf_ok X flX9_11 (dk rfl) M.1 rfl ?_
    repeat refine fst1_ok X (dk rfl) rfl ?_
    obtain ⟨vs, v1, v2, M2⟩ := M.put hx hu ht
    refine str_ok X (dk rfl) v1 hu (by omega) (by omega) ?_
    exact retv_ok X hr hlk (dk rfl) ⟨rfl, M2, (Fs.rf h').set (Or.inr rfl) _⟩ (Nat.le_refl _) (Nat.le_refl _)
end M49
