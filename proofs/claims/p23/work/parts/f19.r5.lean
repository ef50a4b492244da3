/-! the reference's shared size, exactly (printed by wip/q/genR5.py) -/
/-- where a row begins, when rows are put behind each other -/
def offN : List (List Nat) → Nat → Nat
  | _, 0 => 0
  | [], _ + 1 => 0
  | r :: rs, t + 1 => r.length + offN rs t
theorem offN_succ : ∀ {rows : List (List Nat)} {t : Nat} {r : List Nat}, rows[t]? = some r → offN rows (t + 1) = offN rows t + r.length
  | [], t, r, h => by simp at h
  | x :: rs, 0, r, h => by
    simp only [List.getElem?_cons_zero, Option.some.injEq] at h
    subst h
    show x.length + offN rs 0 = 0 + x.length
    have : offN rs 0 = 0 := by cases rs <;> rfl
    omega
  | x :: rs, t + 1, r, h => by
    rw [List.getElem?_cons_succ] at h
    show x.length + offN rs (t + 1) = x.length + offN rs t + r.length
    rw [offN_succ h]
    omega
theorem offN_zero (rows : List (List Nat)) : offN rows 0 = 0 := by cases rows <;> rfl
theorem offN_all : ∀ rows : List (List Nat), offN rows rows.length = rows.flatten.length
  | [] => rfl
  | r :: rs => by
    show r.length + offN rs rs.length = (r ++ rs.flatten).length
    rw [offN_all rs, List.length_append]
theorem offN_le {rows : List (List Nat)} {t : Nat} {r : List Nat} (h : rows[t]? = some r) : offN rows t + r.length ≤ rows.flatten.length := by
  have key : ∀ (rows : List (List Nat)) (t : Nat), t ≤ rows.length → offN rows t ≤ rows.flatten.length := by
    intro rows
    induction rows with
    | nil => intro t ht; rw [show t = 0 by simpa using ht]; exact Nat.le_refl _
    | cons x rs ih =>
      intro t ht
      cases t with
      | zero => exact Nat.zero_le _
      | succ t =>
        have := ih t (by rw [List.length_cons] at ht; omega)
        show x.length + offN rs t ≤ (x ++ rs.flatten).length
        rw [List.length_append]
        omega
  have ht : t < rows.length := (List.getElem?_eq_some_iff.mp h).1
  have := key rows (t + 1) ht
  rw [offN_succ h] at this
  exact this
/-- a term of a row, when rows are put behind each other -/
theorem rows_sub : ∀ {rows : List (List Nat)} {t pl : Nat} {r : List Nat}, rows[t]? = some r → TW r → pl < r.length → sub' rows.flatten (offN rows t + pl) = sub' r pl
  | [], t, pl, r, h, _, _ => by simp at h
  | x :: rs, 0, pl, r, h, tw, hp => by
    simp only [List.getElem?_cons_zero, Option.some.injEq] at h
    subst h
    obtain ⟨k1, k2, k3, k4⟩ := subTW tw hp
    have e : (x ++ rs.flatten).drop pl = x.drop pl ++ rs.flatten := List.drop_append_of_le_length (by omega)
    have e2 := endL_app _ rs.flatten _ _ k1
    show ((x ++ rs.flatten).drop (0 + pl)).take (tl (x ++ rs.flatten) (0 + pl)) = (x.drop pl).take (tl x pl)
    rw [Nat.zero_add]
    have e3 : tl (x ++ rs.flatten) pl = tl x pl := by
      unfold tl
      rw [e, e2, k1]
    rw [e3, e, List.take_append_of_le_length (by rw [List.length_drop]; omega)]
  | x :: rs, t + 1, pl, r, h, tw, hp => by
    rw [List.getElem?_cons_succ] at h
    have ih := rows_sub h tw hp
    have e : ∀ q, (x ++ rs.flatten).drop (x.length + q) = rs.flatten.drop q := fun q => by rw [List.drop_append]; simp
    show sub' (x ++ rs.flatten) (x.length + offN rs t + pl) = _
    rw [← ih]
    unfold sub' tl
    rw [Nat.add_assoc, e]
theorem offN_mono : ∀ {rows : List (List Nat)} {a b : Nat}, a ≤ b → b ≤ rows.length → offN rows a ≤ offN rows b
  | rows, 0, b, _, _ => by rw [offN_zero]; exact Nat.zero_le _
  | rows, a + 1, 0, h, _ => by omega
  | [], a + 1, b + 1, _, h => by simp at h
  | r :: rs, a + 1, b + 1, h, hb => by
    have := offN_mono (rows := rs) (a := a) (b := b) (by omega) (by rw [List.length_cons] at hb; omega)
    show r.length + offN rs a ≤ r.length + offN rs b
    omega
theorem RO.at {rows : List (List Nat)} (h : RO rows) {t : Nat} {r : List Nat} (ht : rows[t]? = some r) : TW r ∧ r.length ≤ 16 := h.2 r (List.mem_of_getElem? ht)
section R19
variable {la : Launch} {D : va_G} {cA : Nat → ClassId} {B0 pa : Nat} {o S A : Nat} {sl : List (List Nat)} {an : List (List (List Nat))} {da dr kn th : Int32}
set_option maxHeartbeats 8000000 in
theorem RF.x_isMet (h : AH) {A t pl : Nat} {rows : List (List Nat)} {rt : List Nat} (hA : Ans h A rows) (ho : RO rows) (ht : rows[t]? = some rt) (hp : pl < rt.length) : CT la D cA B0 pa yX10_isMet cX10_isMet 5 (some .boolean) (rmD 3 0 0) [.ref A, vI t, vI pl] h (fun v h' => v = some (.int (if (nwB rows.flatten (offN rows t + pl)) = true then 0 else 1)) ∧ h' = h) := by
  refine CT_of (by decide +kernel) (Nat.le_of_ble_eq_true rfl) ?_
  intro p e s m args below meth c X E hr hlk hnm
  have dk : ∀ {pc : Nat} {q : Instr × Nat}, lkd DX10_isMet pc = some q → decode cX10_isMet pc = .ok q := lkd_ok DX10_isMet_ok
  obtain ⟨as, has, hAs, hra⟩ := hA.row
  have htl : t < rows.length := (List.getElem?_eq_some_iff.mp ht).1
  have hn := ho.1
  obtain ⟨at', rt', ht1, ht2, ht3⟩ := hra t htl
  cases ht.symm.trans ht2
  have hrt := ho.2 rt (List.mem_of_getElem? ht)
  obtain ⟨k2, hk2, -, -, -⟩ := hrt.1.at hp
  have gl := offN_le ht
  have egt := rows_sub ht hrt.1 hp
  have outer : ∀ (d j : Nat), d = t + 1 - j → j ≤ t + 1 → (∀ y, y < (if j ≤ t then offN rows j else offN rows t + pl) → sub' rows.flatten y ≠ sub' rows.flatten (offN rows t + pl)) → ∀ (l : List (Nat × Value)), lsel l [3, 0, 1, 2] = [(3, vI j), (0, .ref A), (1, vI t), (2, vI pl)] → WR p la e (rmD 3 0 0) s m args below meth c D cA B0 5 (fun v h' => v = some (.int (if (nwB rows.flatten (offN rows t + pl)) = true then 0 else 1)) ∧ h' = h) 2 l [] h 0 0 := by
    intro d
    induction d with
    | zero =>
      intro j hd hj hnw l hl
      refine WS.sel [3, 0, 1, 2] hl ?_
      repeat refine fst1_ok X (dk rfl) rfl ?_
      refine br_ok X (dk rfl) rfl (show ((4 : Nat) : Int) + 53 = ((57 : Nat) : Int) from rfl) (fun c1 => ?_) (fun c1 => absurd (nI_lt (by omega) (by omega)) c1)
      repeat refine fst1_ok X (dk rfl) rfl ?_
      have en := nwB_t (X := rows.flatten) (i := offN rows t + pl) (by omega) (fun y hy => hnw y (by rw [if_neg (by omega)]; exact hy))
      exact reti_ok X hr hlk rfl (dk rfl) ⟨by rw [if_pos en]; rfl, rfl⟩ (Nat.le_refl _) (Nat.le_refl _)
    | succ d ih =>
      intro j hd hj hnw l hl
      obtain ⟨a, x, ha1, ha2, ha3⟩ := hra j (by omega)
      have hx := ho.2 x (List.mem_of_getElem? ha2)
      have f3 : Value.int (nI j + Int32.ofInt 1) = vI (j + 1) := congrArg Value.int (by rw [nI_1', nI_add])
      -- the bound of the inner loop
      have inner : ∀ (N : Nat), N ≤ x.length → (j = t → N = pl) → (j ≠ t → N = x.length) → ∀ (d2 i : Nat), d2 = N - i → i ≤ N → (∀ y, y < offN rows j + i → sub' rows.flatten y ≠ sub' rows.flatten (offN rows t + pl)) → ∀ (l : List (Nat × Value)), lsel l [4, 3, 0, 1, 2] = [(4, vI i), (3, vI j), (0, .ref A), (1, vI t), (2, vI pl)] → WR p la e (rmD 3 0 0) s m args below meth c D cA B0 5 (fun v h' => v = some (.int (if (nwB rows.flatten (offN rows t + pl)) = true then 0 else 1)) ∧ h' = h) 10 l [] h 0 0 := by
        intro N hN hN1 hN2 d2
        induction d2 with
        | zero =>
          intro i hd2 hi hnw2 l hl
          have hi2 : i = N := by omega
          subst hi2
          have fin' : ∀ (l : List (Nat × Value)), lsel l [3, 0, 1, 2] = [(3, vI j), (0, .ref A), (1, vI t), (2, vI pl)] → WR p la e (rmD 3 0 0) s m args below meth c D cA B0 5 (fun v h' => v = some (.int (if (nwB rows.flatten (offN rows t + pl)) = true then 0 else 1)) ∧ h' = h) 25 l [vI i, vI i] h 0 0 := by
            intro l hl
            refine WS.sel [3, 0, 1, 2] hl ?_
            refine br_ok X (dk rfl) rfl (show ((25 : Nat) : Int) + 26 = ((51 : Nat) : Int) from rfl) (fun c1 => ?_) (fun c1 => absurd (Int32.le_refl _) c1)
            repeat refine fst1_ok X (dk rfl) rfl ?_
            refine br_ok X (dk rfl) rfl (show ((54 : Nat) : Int) + (-52) = ((2 : Nat) : Int) from rfl) (fun _ => ?_) (fun q => absurd trivial q)
            refine WS.sel (l' := [(3, vI (j + 1)), (0, .ref A), (1, vI t), (2, vI pl)]) [3, 0, 1, 2] (by rw [← f3]; rfl) ?_
            exact ih (j + 1) (by omega) (by omega) (fun y hy => hnw2 y (by
              by_cases q : j = t
              · rw [if_neg (by omega)] at hy
                rw [hN1 q, q]
                exact hy
              · rw [if_pos (by omega), offN_succ ha2] at hy
                rw [hN2 q]
                exact hy)) _ rfl
          refine WS.sel [4, 3, 0, 1, 2] hl ?_
          repeat refine fst1_ok X (dk rfl) rfl ?_
          refine br_ok X (dk rfl) rfl (show ((14 : Nat) : Int) + 7 = ((21 : Nat) : Int) from rfl) (fun c2 => ?_) (fun c2 => ?_)
          · have hjt : j ≠ t := fun z => c2 (by rw [z])
            repeat refine fst1_ok X (dk rfl) rfl ?_
            refine ldr_ok X (dk rfl) hAs ha1 (by omega) ?_
            refine alen_ok X (by decide) (dk rfl) ha3 ?_
            rw [show (x.map vI).length = i by rw [List.length_map, hN2 hjt]]
            exact fin' _ rfl
          · have hjt : j = t := (nI_eq (by omega) (by omega)).mp (Decidable.not_not.mp c2)
            refine fst1_ok X (dk rfl) rfl ?_
            refine br_ok X (dk rfl) rfl (show ((18 : Nat) : Int) + 7 = ((25 : Nat) : Int) from rfl) (fun _ => ?_) (fun q => absurd trivial q)
            rw [show nI pl = nI i by rw [hN1 hjt]]
            exact fin' _ (by rw [hN1 hjt]; rfl)
        | succ d2 ih2 =>
          intro i hd2 hi hnw2 l hl
          obtain ⟨k1, hk1, -, -, -⟩ := hx.1.at (j := i) (by omega)
          have eji := rows_sub ha2 hx.1 (show i < x.length by omega)
          have es : ((x.drop i).take k1 = (rt.drop pl).take k2) ↔ sub' rows.flatten (offN rows j + i) = sub' rows.flatten (offN rows t + pl) := by
            rw [eji, egt]
            unfold sub'
            rw [tl_of hk1, tl_of hk2]
          have go' : ∀ (l : List (Nat × Value)), lsel l [4, 3, 0, 1, 2] = [(4, vI i), (3, vI j), (0, .ref A), (1, vI t), (2, vI pl)] → WR p la e (rmD 3 0 0) s m args below meth c D cA B0 5 (fun v h' => v = some (.int (if (nwB rows.flatten (offN rows t + pl)) = true then 0 else 1)) ∧ h' = h) 25 l [vI N, vI i] h 0 0 := by
            intro l hl
            refine WS.sel [4, 3, 0, 1, 2] hl ?_
            refine br_ok X (dk rfl) rfl (show ((25 : Nat) : Int) + 26 = ((51 : Nat) : Int) from rfl) (fun c1 => absurd c1 (nI_ge (by omega) (by omega))) (fun c1 => ?_)
            repeat refine fst1_ok X (dk rfl) rfl ?_
            refine ldr_ok X (dk rfl) hAs ha1 (by omega) ?_
            repeat refine fst1_ok X (dk rfl) rfl ?_
            refine ldr_ok X (dk rfl) hAs ht1 (by omega) ?_
            repeat refine fst1_ok X (dk rfl) rfl ?_
            refine callS_ok (av := [.ref a, vI i, .ref at', vI pl]) (r := []) X E (c_isAt h ha3 ht3 (by omega) (by omega) hx.1.lt hrt.1.lt hk1 hk2) lkX10_isAt mlX10_70 lsX10_isAt ⟨Nat.le_of_ble_eq_true rfl, Nat.le_of_ble_eq_true rfl⟩ ⟨Nat.le_of_ble_eq_true rfl, Nat.le_of_ble_eq_true rfl⟩ (Nat.le_of_ble_eq_true rfl) (dk rfl) ?_
            rintro v h' ⟨rfl, rfl⟩
            by_cases ce : (x.drop i).take k1 = (rt.drop pl).take k2
            · rw [if_pos ce]
              have hlt : offN rows j + i < offN rows t + pl := by
                by_cases q : j = t
                · have := hN1 q
                  subst q
                  omega
                · have := offN_mono (rows := rows) (show j + 1 ≤ t by omega) (by omega)
                  rw [offN_succ ha2] at this
                  omega
              have en := nwB_f (X := rows.flatten) (by omega) hlt (es.mp ce)
              refine br_ok X (dk rfl) rfl (show ((40 : Nat) : Int) + 5 = ((45 : Nat) : Int) from rfl) (fun c2 => absurd c2 (by decide)) (fun c2 => ?_)
              repeat refine fst1_ok X (dk rfl) rfl ?_
              exact reti_ok X hr hlk rfl (dk rfl) ⟨by rw [if_neg (by rw [en]; decide)]; rfl, rfl⟩ (Nat.le_refl _) (Nat.le_refl _)
            · rw [if_neg ce]
              refine br_ok X (dk rfl) rfl (show ((40 : Nat) : Int) + 5 = ((45 : Nat) : Int) from rfl) (fun c2 => ?_) (fun c2 => absurd rfl c2)
              repeat refine fst1_ok X (dk rfl) rfl ?_
              refine br_ok X (dk rfl) rfl (show ((48 : Nat) : Int) + (-38) = ((10 : Nat) : Int) from rfl) (fun _ => ?_) (fun q => absurd trivial q)
              have f2 : Value.int (nI i + Int32.ofInt 1) = vI (i + 1) := congrArg Value.int (by rw [nI_1', nI_add])
              refine WS.sel (l' := [(4, vI (i + 1)), (3, vI j), (0, .ref A), (1, vI t), (2, vI pl)]) [4, 3, 0, 1, 2] (by rw [← f2]; rfl) ?_
              exact ih2 (i + 1) (by omega) (by omega) (fun y hy => by
                rcases Nat.lt_or_ge y (offN rows j + i) with z | z
                · exact hnw2 y z
                · rw [show y = offN rows j + i by omega]
                  exact fun w => ce (es.mpr w)) _ rfl
          refine WS.sel [4, 3, 0, 1, 2] hl ?_
          repeat refine fst1_ok X (dk rfl) rfl ?_
          refine br_ok X (dk rfl) rfl (show ((14 : Nat) : Int) + 7 = ((21 : Nat) : Int) from rfl) (fun c2 => ?_) (fun c2 => ?_)
          · have hjt : j ≠ t := fun z => c2 (by rw [z])
            repeat refine fst1_ok X (dk rfl) rfl ?_
            refine ldr_ok X (dk rfl) hAs ha1 (by omega) ?_
            refine alen_ok X (by decide) (dk rfl) ha3 ?_
            rw [show (x.map vI).length = N by rw [List.length_map, hN2 hjt]]
            exact go' _ rfl
          · have hjt : j = t := (nI_eq (by omega) (by omega)).mp (Decidable.not_not.mp c2)
            refine fst1_ok X (dk rfl) rfl ?_
            refine br_ok X (dk rfl) rfl (show ((18 : Nat) : Int) + 7 = ((25 : Nat) : Int) from rfl) (fun _ => ?_) (fun q => absurd trivial q)
            rw [show nI pl = nI N by rw [hN1 hjt]]
            exact go' _ rfl
      refine WS.sel [3, 0, 1, 2] hl ?_
      repeat refine fst1_ok X (dk rfl) rfl ?_
      refine br_ok X (dk rfl) rfl (show ((4 : Nat) : Int) + 53 = ((57 : Nat) : Int) from rfl) (fun c1 => absurd c1 (nI_nlt (by omega) (by omega))) (fun c1 => ?_)
      iterate 2 refine fst1_ok X (dk rfl) rfl ?_
      by_cases hjt : j = t
      · have hxr : x = rt := by rw [hjt, ht] at ha2; exact (Option.some.inj ha2).symm
        exact inner pl (by rw [hxr]; omega) (fun _ => rfl) (fun z => absurd hjt z) _ 0 rfl (Nat.zero_le _) (fun y hy => hnw y (by rw [if_pos (by omega)]; exact hy)) _ rfl
      · exact inner x.length (Nat.le_refl _) (fun z => absurd z hjt) (fun _ => rfl) _ 0 rfl (Nat.zero_le _) (fun y hy => hnw y (by rw [if_pos (by omega)]; exact hy)) _ rfl
  iterate 2 refine fst1_ok X (dk rfl) rfl ?_
  exact outer _ 0 rfl (Nat.zero_le _) (fun y hy => absurd hy (by rw [if_pos (Nat.zero_le _), offN_zero]; exact Nat.not_lt_zero _)) _ rfl
set_option maxHeartbeats 8000000 in
theorem RF.x_sharedOf (h : AH) {A : Nat} {rows : List (List Nat)} (hA : Ans h A rows) (ho : RO rows) : CT la D cA B0 pa yX10_sharedOf cX10_sharedOf 4 (some .int) (rmD 4 0 0) [.ref A] h (fun v h' => v = some (vI (shN rows.flatten)) ∧ h' = h) := by
  refine CT_of (by decide +kernel) (Nat.le_of_ble_eq_true rfl) ?_
  intro p e s m args below meth c X E hr hlk hnm
  have dk : ∀ {pc : Nat} {q : Instr × Nat}, lkd DX10_sharedOf pc = some q → decode cX10_sharedOf pc = .ok q := lkd_ok DX10_sharedOf_ok
  obtain ⟨as, has, hAs, hra⟩ := hA.row
  have hn := ho.1
  have outer : ∀ (d j : Nat), d = rows.length - j → j ≤ rows.length → ∀ (z : Int32) (l : List (Nat × Value)), z = nI (ctF (nwB rows.flatten) (offN rows j)) → lsel l [2, 1, 0] = [(2, vI j), (1, .int z), (0, .ref A)] → WR p la e (rmD 4 0 0) s m args below meth c D cA B0 4 (fun v h' => v = some (vI (shN rows.flatten)) ∧ h' = h) 4 l [] h 0 0 := by
    intro d
    induction d with
    | zero =>
      intro j hd hj z l ez hl
      have hj2 : j = rows.length := by omega
      subst hj2
      refine WS.sel [2, 1, 0] hl ?_
      repeat refine fst1_ok X (dk rfl) rfl ?_
      refine alen_ok X (by decide) (dk rfl) hAs ?_
      rw [show (as.map Value.ref).length = rows.length by rw [List.length_map, has]]
      refine br_ok X (dk rfl) rfl (show ((7 : Nat) : Int) + 42 = ((49 : Nat) : Int) from rfl) (fun c1 => ?_) (fun c1 => absurd (Int32.le_refl _) c1)
      repeat refine fst1_ok X (dk rfl) rfl ?_
      exact reti_ok X hr hlk rfl (dk rfl) ⟨by rw [ez, offN_all]; rfl, rfl⟩ (Nat.le_refl _) (Nat.le_refl _)
    | succ d ih =>
      intro j hd hj z l ez hl
      obtain ⟨a, x, ha1, ha2, ha3⟩ := hra j (by omega)
      have hx := ho.2 x (List.mem_of_getElem? ha2)
      have inner : ∀ (d2 i : Nat), d2 = x.length - i → i ≤ x.length → ∀ (z : Int32) (l : List (Nat × Value)), z = nI (ctF (nwB rows.flatten) (offN rows j + i)) → lsel l [3, 2, 1, 0] = [(3, vI i), (2, vI j), (1, .int z), (0, .ref A)] → WR p la e (rmD 4 0 0) s m args below meth c D cA B0 4 (fun v h' => v = some (vI (shN rows.flatten)) ∧ h' = h) 12 l [] h 0 0 := by
        intro d2
        induction d2 with
        | zero =>
          intro i hd2 hi z l ez hl
          have hi2 : i = x.length := by omega
          subst hi2
          refine WS.sel [3, 2, 1, 0] hl ?_
          repeat refine fst1_ok X (dk rfl) rfl ?_
          refine ldr_ok X (dk rfl) hAs ha1 (by omega) ?_
          refine alen_ok X (by decide) (dk rfl) ha3 ?_
          rw [show (x.map vI).length = x.length from List.length_map _]
          refine br_ok X (dk rfl) rfl (show ((17 : Nat) : Int) + 26 = ((43 : Nat) : Int) from rfl) (fun c1 => ?_) (fun c1 => absurd (Int32.le_refl _) c1)
          repeat refine fst1_ok X (dk rfl) rfl ?_
          refine br_ok X (dk rfl) rfl (show ((46 : Nat) : Int) + (-42) = ((4 : Nat) : Int) from rfl) (fun _ => ?_) (fun q => absurd trivial q)
          have f2 : Value.int (nI j + Int32.ofInt 1) = vI (j + 1) := congrArg Value.int (by rw [nI_1', nI_add])
          refine WS.sel (l' := [(2, vI (j + 1)), (1, .int z), (0, .ref A)]) [2, 1, 0] (by rw [← f2]; rfl) ?_
          exact ih (j + 1) (by omega) (by omega) _ _ (by rw [ez, offN_succ ha2]) rfl
        | succ d2 ih2 =>
          intro i hd2 hi z l ez hl
          have f2 : Value.int (nI i + Int32.ofInt 1) = vI (i + 1) := congrArg Value.int (by rw [nI_1', nI_add])
          have back : ∀ (w : Int32) (l : List (Nat × Value)), z + w = nI (ctF (nwB rows.flatten) (offN rows j + (i + 1))) → lsel l [3, 2, 0] = [(3, vI i), (2, vI j), (0, .ref A)] → WR p la e (rmD 4 0 0) s m args below meth c D cA B0 4 (fun v h' => v = some (vI (shN rows.flatten)) ∧ h' = h) 35 l [.int w, .int z] h 0 0 := by
            intro w l ew hl
            refine WS.sel [3, 2, 0] hl ?_
            repeat refine fst1_ok X (dk rfl) rfl ?_
            refine br_ok X (dk rfl) rfl (show ((40 : Nat) : Int) + (-28) = ((12 : Nat) : Int) from rfl) (fun _ => ?_) (fun q => absurd trivial q)
            refine WS.sel (l' := [(3, vI (i + 1)), (2, vI j), (1, .int (z + w)), (0, .ref A)]) [3, 2, 1, 0] (by rw [← f2]; rfl) ?_
            exact ih2 (i + 1) (by omega) (by omega) _ _ ew rfl
          refine WS.sel [3, 2, 1, 0] hl ?_
          repeat refine fst1_ok X (dk rfl) rfl ?_
          refine ldr_ok X (dk rfl) hAs ha1 (by omega) ?_
          refine alen_ok X (by decide) (dk rfl) ha3 ?_
          rw [show (x.map vI).length = x.length from List.length_map _]
          refine br_ok X (dk rfl) rfl (show ((17 : Nat) : Int) + 26 = ((43 : Nat) : Int) from rfl) (fun c1 => absurd c1 (nI_ge (by omega) (by omega))) (fun c1 => ?_)
          repeat refine fst1_ok X (dk rfl) rfl ?_
          refine callS_ok (av := [.ref A, vI j, vI i]) (r := [.int z]) X E (x_isMet h hA ho ha2 (by omega)) lkX10_isMet mlX10_66 lsX10_isMet ⟨Nat.le_of_ble_eq_true rfl, Nat.le_of_ble_eq_true rfl⟩ ⟨Nat.le_of_ble_eq_true rfl, Nat.le_of_ble_eq_true rfl⟩ (Nat.le_of_ble_eq_true rfl) (dk rfl) ?_
          rintro v h' ⟨rfl, rfl⟩
          have ec : ctF (nwB rows.flatten) (offN rows j + (i + 1)) = ctF (nwB rows.flatten) (offN rows j + i) + (if nwB rows.flatten (offN rows j + i) = true then 1 else 0) := rfl
          by_cases en : nwB rows.flatten (offN rows j + i) = true
          · rw [if_pos en] at ec
            rw [if_pos en]
            refine br_ok X (dk rfl) rfl (show ((27 : Nat) : Int) + 7 = ((34 : Nat) : Int) from rfl) (fun c2 => ?_) (fun c2 => absurd rfl c2)
            refine fst1_ok X (dk rfl) rfl ?_
            exact back _ _ (by rw [ez, ec, nI_1', nI_add]) rfl
          · rw [if_neg en] at ec
            rw [if_neg en]
            refine br_ok X (dk rfl) rfl (show ((27 : Nat) : Int) + 7 = ((34 : Nat) : Int) from rfl) (fun c2 => absurd c2 (by decide)) (fun c2 => ?_)
            refine fst1_ok X (dk rfl) rfl ?_
            refine br_ok X (dk rfl) rfl (show ((31 : Nat) : Int) + 4 = ((35 : Nat) : Int) from rfl) (fun _ => ?_) (fun q => absurd trivial q)
            exact back _ _ (by rw [ez, ec, nI_0', nI_add]) rfl
      refine WS.sel [2, 1, 0] hl ?_
      repeat refine fst1_ok X (dk rfl) rfl ?_
      refine alen_ok X (by decide) (dk rfl) hAs ?_
      rw [show (as.map Value.ref).length = rows.length by rw [List.length_map, has]]
      refine br_ok X (dk rfl) rfl (show ((7 : Nat) : Int) + 42 = ((49 : Nat) : Int) from rfl) (fun c1 => absurd c1 (nI_ge (by omega) (by omega))) (fun c1 => ?_)
      iterate 2 refine fst1_ok X (dk rfl) rfl ?_
      exact inner _ 0 rfl (Nat.zero_le _) _ _ ez rfl
  iterate 4 refine fst1_ok X (dk rfl) rfl ?_
  exact outer _ 0 rfl (Nat.zero_le _) _ _ (by rw [offN_zero]; exact nI_0') rfl
set_option maxHeartbeats 4000000 in
theorem RF.x_sharedOf_ (h : AH) {q : Nat} {x : List Nat} (hq : h q = some (IA x)) (hx : TW x ∧ x.length ≤ 16) : CT la D cA B0 pa yX10_sharedOf_ cX10_sharedOf_ 1 (some .int) (rmD 5 1 1) [.ref q] h (fun v h' => v = some (vI (shN x)) ∧ Ext h h') := by
  refine CT_of (by decide +kernel) (Nat.le_of_ble_eq_true rfl) ?_
  intro p e s m args below meth c X E hr hlk hnm
  have dk : ∀ {pc : Nat} {q : Instr × Nat}, lkd DX10_sharedOf_ pc = some q → decode cX10_sharedOf_ pc = .ok q := lkd_ok DX10_sharedOf__ok
  refine fst1_ok X (dk rfl) rfl ?_
  refine newR_ok (N := 1) (kd := 105) X E (by decide) cl10_9 (by decide) (dk rfl) (by decide) (by decide) (fun T hT hBT => ?_)
  have hqT : q ≠ T := fun z => by rw [z, hT] at hq; cases hq
  repeat refine fst1_ok X (dk rfl) rfl ?_
  refine str_ok (j := 0) X (dk rfl) (hup_self _ _ _) (by rw [hup_ne _ _ hqT]; exact hq) (by simp) (by simp) ?_
  rw [hup_hup]
  have hA : Ans (hup h T (105, (List.replicate 1 Value.null).set 0 (.ref q))) T [x] := by
    refine ⟨[q], rfl, hup_self _ _ _, fun k a r e1 e2 => ?_⟩
    cases k with
    | zero => cases e1; cases e2; rw [hup_ne _ _ hqT]; exact hq
    | succ k => simp at e1
  refine callS_ok (av := [.ref T]) (r := []) X E (x_sharedOf _ hA ⟨by simp, fun r hr => by simp at hr; rw [hr]; exact hx⟩) lkX10_sharedOf mlX10_199 lsX10_sharedOf ⟨Nat.le_of_ble_eq_true rfl, Nat.le_of_ble_eq_true rfl⟩ ⟨Nat.le_of_ble_eq_true rfl, Nat.le_of_ble_eq_true rfl⟩ (Nat.le_of_ble_eq_true rfl) (dk rfl) ?_
  rintro v h2 ⟨rfl, rfl⟩
  exact reti_ok X hr hlk rfl (dk rfl) ⟨by rw [show [x].flatten = x by simp]; rfl, Ext.new hT _⟩ (Nat.le_of_ble_eq_true rfl) (Nat.le_of_ble_eq_true rfl)
set_option maxHeartbeats 4000000 in
theorem RF.x_shared (h : AH) (M : MD h o S A sl an da dr kn th) (x1 : Int32) : CT la D cA B0 pa yX10_shared cX10_shared 2 (some .int) (rmD 6 1 1) [.ref o, .int x1] h (refR o S A kn (aShared x1 (sl, an, da, dr)) h) := by
  refine CT_of (by decide +kernel) (Nat.le_of_ble_eq_true rfl) ?_
  intro p e s m args below meth c X E hr hlk hnm
  have dk : ∀ {pc : Nat} {q : Instr × Nat}, lkd DX10_shared pc = some q → decode cX10_shared pc = .ok q := lkd_ok DX10_shared_ok
  have mid1 : ∀ t1 : Bool, (t1 = false → inN 6 x1) → (t1 = true → ¬ (inN 6 x1)) → WR p la e (rmD 6 1 1) s m args below meth c D cA B0 2 (refR o S A kn (aShared x1 (sl, an, da, dr)) h) 13 (lv_args 0 [.ref o, .int x1]) [.int (bI t1), .ref o] h 0 0 := by
    intro t1 ht1 hn1
    refine thr1_ok X E M ⟨Nat.le_of_ble_eq_true rfl, Nat.le_of_ble_eq_true rfl⟩ ⟨Nat.le_of_ble_eq_true rfl, Nat.le_of_ble_eq_true rfl⟩ (Nat.le_of_ble_eq_true rfl) (dk rfl) (fun h1 M1 F1 => ?_)
    cases hb : t1 with
    | true =>
      have hT1 : ¬ (inN 6 x1) → aShared x1 (sl, an, da, dr) = ((1, 0), (sl, an, da, dr)) := (fun hn => by
          unfold aShared
          by_cases q0 : okI 6 x1 = true
          rotate_left
          · exact if_neg q0
          rw [if_pos q0]
          exact absurd (okI_in (by decide) q0) hn)
      have hE : aShared x1 (sl, an, da, dr) = ((thI t1 false, 0), (sl, an, da, dr)) := by
        rw [hb]
        exact hT1 (hn1 hb)
      refine br_ok X (dk rfl) rfl (show ((16 : Nat) : Int) + 7 = ((23 : Nat) : Int) from rfl) (fun q => absurd q bI_t) (fun _ => ?_)
      refine fst1_ok X (dk rfl) rfl ?_
      refine br_ok X (dk rfl) rfl (show ((20 : Nat) : Int) + 12 = ((32 : Nat) : Int) from rfl) (fun _ => ?_) (fun q => absurd trivial q)
      exact reti_ok X hr hlk rfl (dk rfl) (refR_thr M1 F1 hE (by decide +kernel)) (Nat.zero_le _) (Nat.zero_le _)
    | false =>
      refine br_ok X (dk rfl) rfl (show ((16 : Nat) : Int) + 7 = ((23 : Nat) : Int) from rfl) (fun _ => ?_) (fun q => absurd bI_f' q)
      obtain ⟨j1, hj1, rfl⟩ := ht1 hb
      have M1 : MD h1 o S A sl an da dr kn (nI 0) := by
        rw [hb] at M1
        exact M1
      obtain ⟨ss, s1, s2, s3⟩ := M1.slot
      obtain ⟨as, a1, a2, a3⟩ := M1.ans
      obtain ⟨b1, y1, e1, f1, g1, w1, n1⟩ := s3 j1 hj1
      have ly1 : (y1.map vI).length = y1.length := List.length_map _
      repeat refine fst1_ok X (dk rfl) rfl ?_
      refine getf_ok X flX10_11 (dk rfl) M1.obj rfl ?_
      refine fst1_ok X (dk rfl) rfl ?_
      refine ldr_ok X (dk rfl) s2 e1 (by omega) ?_
      refine callS_ok (av := [.ref b1]) (r := []) X E (x_sharedOf_ h1 g1 ⟨w1, n1⟩) lkX10_sharedOf_ mlX10_202 lsX10_sharedOf_ ⟨Nat.le_of_ble_eq_true rfl, Nat.le_of_ble_eq_true rfl⟩ ⟨Nat.le_of_ble_eq_true rfl, Nat.le_of_ble_eq_true rfl⟩ (Nat.le_of_ble_eq_true rfl) (dk rfl) ?_
      rintro v h2 ⟨rfl, X2⟩
      exact reti_ok X hr hlk rfl (dk rfl) (refR_ok (M1.ext X2) (F1.trans (Fr.ext X2)) (by unfold aShared; dsimp only; rw [if_pos (okI_t hj1 (by decide)), xI_n (by omega), getD_of f1]; first | done | rfl)) (Nat.le_of_ble_eq_true rfl) (Nat.le_of_ble_eq_true rfl)
  iterate 2 refine fst1_ok X (dk rfl) rfl ?_
  refine isSlot_ok X E mlX10_95 ⟨Nat.le_of_ble_eq_true rfl, Nat.le_of_ble_eq_true rfl⟩ ⟨Nat.le_of_ble_eq_true rfl, Nat.le_of_ble_eq_true rfl⟩ (Nat.le_of_ble_eq_true rfl) (dk rfl) (fun mid1b0 mid1h0 mid1n0 => ?_)
  cases mid1b0 with
  | false =>
    refine br_ok X (dk rfl) rfl (show ((5 : Nat) : Int) + 7 = ((12 : Nat) : Int) from rfl) (fun q => absurd q bI_f) (fun _ => ?_)
    refine fst1_ok X (dk rfl) rfl ?_
    refine br_ok X (dk rfl) rfl (show ((9 : Nat) : Int) + 4 = ((13 : Nat) : Int) from rfl) (fun _ => ?_) (fun q => absurd trivial q)
    exact mid1 true (fun z => by cases z) (fun _ hh => absurd (hh) (mid1n0 rfl))
  | true =>
    refine br_ok X (dk rfl) rfl (show ((5 : Nat) : Int) + 7 = ((12 : Nat) : Int) from rfl) (fun _ => ?_) (fun q => absurd bI_t q)
    refine fst1_ok X (dk rfl) rfl ?_
    exact mid1 false (fun _ => mid1h0 rfl) (fun z => by cases z)
end R19
