/-! over answers: unlikeOf, movedBy, withBehind -/
/-- an answer: eight terms of at most 16 letters -/
def AO (rows : List (List Nat)) : Prop := rows.length = 8 ∧ ∀ r ∈ rows, TW r ∧ r.length ≤ 16
/-- eight terms, as they come from putting one answer into another one -/
def AW (rows : List (List Nat)) : Prop := rows.length = 8 ∧ ∀ r ∈ rows, TW r ∧ r.length ≤ 256
theorem AO.aw {rows : List (List Nat)} (h : AO rows) : AW rows := ⟨h.1, fun r hr => ⟨(h.2 r hr).1, by have := (h.2 r hr).2; omega⟩⟩
def movedN (rows : List (List Nat)) : Nat → Nat
  | 0 => 0
  | j + 1 => if rows[j]? = some [j] then movedN rows j else movedN rows j ||| 2 ^ j
theorem Ans.row {h : AH} {A : Nat} {rows : List (List Nat)} (hA : Ans h A rows) : ∃ as : List Nat, as.length = rows.length ∧ h A = some (105, as.map Value.ref) ∧ ∀ k, k < rows.length → ∃ a r, as[k]? = some a ∧ rows[k]? = some r ∧ h a = some (IA r) := by
  obtain ⟨as, h1, h2, h3⟩ := hA
  refine ⟨as, h1, h2, fun k hk => ⟨as[k]'(by omega), rows[k], by simp, by simp, h3 k _ _ (by simp) (by simp)⟩⟩
section M11
variable {la : Launch} {D : va_G} {cA : Nat → ClassId} {B0 pa : Nat}
set_option maxHeartbeats 8000000 in
theorem c_unlikeOf (h : AH) {A B : Nat} {r1 r2 : List (List Nat)} (hA : Ans h A r1) (hB : Ans h B r2) (o1 : AW r1) (o2 : AW r2) : CT la D cA B0 pa yX10_unlikeOf cX10_unlikeOf 3 (some .int) (rmD 3 0 0) [.ref A, .ref B] h (fun v h' => (∃ o : Option Nat, v = some (vP o) ∧ (∀ i, i < o.getD 8 → r1[i]? = r2[i]?) ∧ ∀ k, o = some k → k < 8 ∧ r1[k]? ≠ r2[k]?) ∧ h' = h) := by
  refine CT_of (by decide +kernel) (Nat.le_of_ble_eq_true rfl) ?_
  intro p e s m args below meth c X E hr hlk hnm
  have dk : ∀ {pc : Nat} {q : Instr × Nat}, lkd DX10_unlikeOf pc = some q → decode cX10_unlikeOf pc = .ok q := lkd_ok DX10_unlikeOf_ok
  obtain ⟨as, has, hAs, hra⟩ := hA.row
  obtain ⟨bs, hbs, hBs, hrb⟩ := hB.row
  have l1 := o1.1
  have l2 := o2.1
  have loop : ∀ (d j : Nat), d = 8 - j → j ≤ 8 → (∀ i, i < j → r1[i]? = r2[i]?) → WR p la e (rmD 3 0 0) s m args below meth c D cA B0 3 (fun v h' => (∃ o : Option Nat, v = some (vP o) ∧ (∀ i, i < o.getD 8 → r1[i]? = r2[i]?) ∧ ∀ k, o = some k → k < 8 ∧ r1[k]? ≠ r2[k]?) ∧ h' = h) 2 [(2, vI j), (0, .ref A), (1, .ref B)] [] h 0 0 := by
    intro d
    induction d with
    | zero =>
      intro j hd hj hi
      have hj2 : j = 8 := by omega
      subst hj2
      repeat refine fst1_ok X (dk rfl) rfl ?_
      refine br_ok X (dk rfl) rfl (show ((5 : Nat) : Int) + 23 = ((28 : Nat) : Int) from rfl) (fun c1 => ?_) (fun c1 => absurd (by decide) c1)
      repeat refine fst1_ok X (dk rfl) rfl ?_
      exact reti_ok X hr hlk rfl (dk rfl) ⟨⟨none, rfl, hi, fun k e => by cases e⟩, rfl⟩ (Nat.le_refl _) (Nat.le_refl _)
    | succ d ih =>
      intro j hd hj hi
      obtain ⟨a, x, ha1, ha2, ha3⟩ := hra j (by omega)
      obtain ⟨b, y, hb1, hb2, hb3⟩ := hrb j (by omega)
      have hx := o1.2 x (List.mem_of_getElem? ha2)
      have hy := o2.2 y (List.mem_of_getElem? hb2)
      repeat refine fst1_ok X (dk rfl) rfl ?_
      refine br_ok X (dk rfl) rfl (show ((5 : Nat) : Int) + 23 = ((28 : Nat) : Int) from rfl) (fun c1 => absurd c1 (nI_ge (b := 8) (by omega) (by omega))) (fun c1 => ?_)
      repeat refine fst1_ok X (dk rfl) rfl ?_
      refine ldr_ok X (dk rfl) hAs ha1 (by omega) ?_
      repeat refine fst1_ok X (dk rfl) rfl ?_
      refine ldr_ok X (dk rfl) hBs hb1 (by omega) ?_
      refine callS_ok (av := [.ref a, .ref b]) (r := []) X E (c_same h ha3 hb3 (by omega) (by omega) hx.1.lt hy.1.lt) lkX10_same mlX10_54 lsX10_same ⟨Nat.le_of_ble_eq_true rfl, Nat.le_of_ble_eq_true rfl⟩ ⟨Nat.le_of_ble_eq_true rfl, Nat.le_of_ble_eq_true rfl⟩ (Nat.le_of_ble_eq_true rfl) (dk rfl) ?_
      rintro v h' ⟨rfl, rfl⟩
      by_cases hxy : x = y
      · rw [if_pos hxy]
        refine br_ok X (dk rfl) rfl (show ((17 : Nat) : Int) + 5 = ((22 : Nat) : Int) from rfl) (fun c2 => ?_) (fun c2 => absurd (by decide) c2)
        repeat refine fst1_ok X (dk rfl) rfl ?_
        refine br_ok X (dk rfl) rfl (show ((25 : Nat) : Int) + (-23) = ((2 : Nat) : Int) from rfl) (fun _ => ?_) (fun q => absurd trivial q)
        have f2 : Value.int (nI j + Int32.ofInt 1) = vI (j + 1) := congrArg Value.int (by rw [nI_1', nI_add])
        refine WS.sel (l' := [(2, vI (j + 1)), (0, .ref A), (1, .ref B)]) [2, 0, 1] (by rw [← f2]; rfl) ?_
        refine ih (j + 1) (by omega) (by omega) (fun i hi2 => ?_)
        rcases Nat.lt_or_ge i j with q | q
        · exact hi i q
        · rw [show i = j by omega, ha2, hb2, hxy]
      · rw [if_neg hxy]
        refine br_ok X (dk rfl) rfl (show ((17 : Nat) : Int) + 5 = ((22 : Nat) : Int) from rfl) (fun c2 => absurd (by decide) c2) (fun c2 => ?_)
        repeat refine fst1_ok X (dk rfl) rfl ?_
        refine reti_ok X hr hlk rfl (dk rfl) ⟨⟨some j, rfl, hi, fun k e => ?_⟩, rfl⟩ (Nat.le_refl _) (Nat.le_refl _)
        cases e
        refine ⟨by omega, ?_⟩
        rw [ha2, hb2]
        exact fun z => hxy (Option.some.inj z)
  iterate 2 refine fst1_ok X (dk rfl) rfl ?_
  exact loop 8 0 rfl (by omega) (fun i hi => by omega)
set_option maxHeartbeats 8000000 in
theorem c_movedBy (h : AH) {A : Nat} {rows : List (List Nat)} (hA : Ans h A rows) (ho : AO rows) : CT la D cA B0 pa yX10_movedBy cX10_movedBy 3 (some .int) (rmD 3 8 8) [.ref A] h (fun v h' => v = some (vI (movedN rows 8)) ∧ Ext h h') := by
  refine CT_of (by decide +kernel) (Nat.le_of_ble_eq_true rfl) ?_
  intro p e s m args below meth c X E hr hlk hnm
  have dk : ∀ {pc : Nat} {q : Instr × Nat}, lkd DX10_movedBy pc = some q → decode cX10_movedBy pc = .ok q := lkd_ok DX10_movedBy_ok
  obtain ⟨as, has, hAs, hra⟩ := hA.row
  have l1 := ho.1
  have loop : ∀ (d j : Nat), d = 8 - j → j ≤ 8 → ∀ (hh : AH) (l : List (Nat × Value)), lsel l [2, 1, 0] = [(2, vI j), (1, vI (movedN rows j)), (0, .ref A)] → Ext h hh → WR p la e (rmD 3 8 8) s m args below meth c D cA B0 3 (fun v h' => v = some (vI (movedN rows 8)) ∧ Ext h h') 4 l [] hh (0 + j) (0 + j) := by
    intro d
    induction d with
    | zero =>
      intro j hd hj hh l hl hE
      have hj2 : j = 8 := by omega
      subst hj2
      refine WS.sel [2, 1, 0] hl ?_
      repeat refine fst1_ok X (dk rfl) rfl ?_
      refine br_ok X (dk rfl) rfl (show ((7 : Nat) : Int) + 32 = ((39 : Nat) : Int) from rfl) (fun c1 => ?_) (fun c1 => absurd (by decide) c1)
      repeat refine fst1_ok X (dk rfl) rfl ?_
      exact reti_ok X hr hlk rfl (dk rfl) ⟨rfl, hE⟩ (Nat.le_refl _) (Nat.le_refl _)
    | succ d ih =>
      intro j hd hj hh l hl hE
      obtain ⟨a, x, ha1, ha2, ha3⟩ := hra j (by omega)
      have hx := ho.2 x (List.mem_of_getElem? ha2)
      refine WS.sel [2, 1, 0] hl ?_
      repeat refine fst1_ok X (dk rfl) rfl ?_
      refine br_ok X (dk rfl) rfl (show ((7 : Nat) : Int) + 32 = ((39 : Nat) : Int) from rfl) (fun c1 => absurd c1 (nI_ge (b := 8) (by omega) (by omega))) (fun c1 => ?_)
      repeat refine fst1_ok X (dk rfl) rfl ?_
      refine ldr_ok X (dk rfl) (hE _ _ hAs) ha1 (by omega) ?_
      repeat refine fst1_ok X (dk rfl) rfl ?_
      refine callS_ok (av := [vI j]) (r := [.ref a, vI (movedN rows j)]) X E (c_row hh j) lkX10_row mlX10_20 lsX10_row ⟨Nat.le_of_ble_eq_true rfl, Nat.le_of_ble_eq_true rfl⟩ ⟨by show 0 + j + 1 ≤ 8; omega, by show 0 + j + 1 ≤ 8; omega⟩ (Nat.le_of_ble_eq_true rfl) (dk rfl) ?_
      rintro v h2 ⟨q, rfl, hq, hBq, rfl⟩
      have hE2 := Ext.new hq (IA [j])
      refine callS_ok (av := [.ref a, .ref q]) (r := [vI (movedN rows j)]) X E (c_same _ (hE2 _ _ (hE _ _ ha3)) (hup_self _ _ _) (by omega) (by simp) hx.1.lt (fun y hy => by simp at hy; omega)) lkX10_same mlX10_54 lsX10_same ⟨Nat.le_of_ble_eq_true rfl, Nat.le_of_ble_eq_true rfl⟩ ⟨by show 0 + j + 1 + 0 ≤ 8; omega, by show 0 + j + 1 + 0 ≤ 8; omega⟩ (Nat.le_of_ble_eq_true rfl) (dk rfl) ?_
      rintro v h' ⟨rfl, rfl⟩
      have f2 : Value.int (nI j + Int32.ofInt 1) = vI (j + 1) := congrArg Value.int (by rw [nI_1', nI_add])
      have back : ∀ (y : Nat), movedN rows (j + 1) = movedN rows j ||| y → WR p la e (rmD 3 8 8) s m args below meth c D cA B0 3 (fun v h' => v = some (vI (movedN rows 8)) ∧ Ext h h') 31 [(2, vI j), (1, vI (movedN rows j)), (0, .ref A)] [vI y, vI (movedN rows j)] (hup hh q (IA [j])) (0 + j + 1 + 0) (0 + j + 1 + 0) := by
        intro y hy
        repeat refine fst1_ok X (dk rfl) rfl ?_
        refine br_ok X (dk rfl) rfl (show ((36 : Nat) : Int) + (-32) = ((4 : Nat) : Int) from rfl) (fun _ => ?_) (fun q => absurd trivial q)
        refine WS.sel (l' := [(2, vI (j + 1)), (1, vI (movedN rows (j + 1))), (0, .ref A)]) [2, 1, 0] (by rw [← f2, hy, show vI (movedN rows j ||| y) = Value.int (nI (movedN rows j) ||| nI y) by rw [nI_or]; rfl]; rfl) ?_
        refine WS.widen (k' := 0 + (j + 1)) (n' := 0 + (j + 1)) (by omega) (by omega) ?_
        exact ih (j + 1) (by omega) (by omega) _ _ rfl (hE.trans hE2)
      by_cases hxy : x = [j]
      · rw [if_pos hxy]
        refine br_ok X (dk rfl) rfl (show ((21 : Nat) : Int) + 7 = ((28 : Nat) : Int) from rfl) (fun c2 => absurd c2 (by decide)) (fun c2 => ?_)
        repeat refine fst1_ok X (dk rfl) rfl ?_
        refine br_ok X (dk rfl) rfl (show ((25 : Nat) : Int) + 6 = ((31 : Nat) : Int) from rfl) (fun _ => ?_) (fun q => absurd trivial q)
        rw [nI_0']
        exact back 0 (by simp [movedN, ha2, hxy])
      · rw [if_neg hxy]
        refine br_ok X (dk rfl) rfl (show ((21 : Nat) : Int) + 7 = ((28 : Nat) : Int) from rfl) (fun c2 => ?_) (fun c2 => absurd rfl c2)
        iterate 3 refine fst1_ok X (dk rfl) rfl ?_
        rw [shl1 j (by omega)]
        exact back (2 ^ j) (by simp [movedN, ha2, hxy])
  iterate 4 refine fst1_ok X (dk rfl) rfl ?_
  exact loop 8 0 rfl (by omega) h _ rfl (Ext.rf h)
set_option maxHeartbeats 8000000 in
theorem c_withBehind (h : AH) {A B : Nat} {r1 r2 : List (List Nat)} (hA : Ans h A r1) (hB : Ans h B r2) (o1 : AO r1) (o2 : AO r2) : CT la D cA B0 pa yX10_withBehind cX10_withBehind 4 (some (.array (.array .int))) (rmD 2 137 2184) [.ref A, .ref B] h (newR B0 h (r1.map (usedL r2))) := by
  refine CT_of (by decide +kernel) (Nat.le_of_ble_eq_true rfl) ?_
  intro p e s m args below meth c X E hr hlk hnm
  have dk : ∀ {pc : Nat} {q : Instr × Nat}, lkd DX10_withBehind pc = some q → decode cX10_withBehind pc = .ok q := lkd_ok DX10_withBehind_ok
  obtain ⟨as, has, hAs, hra⟩ := hA.row
  have l1 := o1.1
  have l2 := o2.1
  repeat refine fst1_ok X (dk rfl) rfl ?_
  refine newR_ok (N := 8) (kd := 105) X E (by decide) cl10_9 (by decide) (dk rfl) (by decide) (by decide) (fun M hM hBM => ?_)
  have loop : ∀ (d j : Nat), d = 8 - j → j ≤ 8 → ∀ (hj : AH) (ms : List Nat), ms.length = j → Ext h hj → hj M = some (105, filR ms 8) → (∀ (k a : Nat) (r : List Nat), ms[k]? = some a → r1[k]? = some r → hj a = some (IA (usedL r2 r))) → WR p la e (rmD 2 137 2184) s m args below meth c D cA B0 4 (newR B0 h (r1.map (usedL r2))) 8 [(3, vI j), (2, .ref M), (0, .ref A), (1, .ref B)] [] hj (1 + 17 * j) (8 + 272 * j) := by
    intro d
    induction d with
    | zero =>
      intro j hd hj hh ms hms hE hMs hrows
      have hj2 : j = 8 := by omega
      subst hj2
      repeat refine fst1_ok X (dk rfl) rfl ?_
      refine br_ok X (dk rfl) rfl (show ((11 : Nat) : Int) + 19 = ((30 : Nat) : Int) from rfl) (fun c1 => ?_) (fun c1 => absurd (by decide) c1)
      repeat refine fst1_ok X (dk rfl) rfl ?_
      refine reta_ok X hr hlk (Or.inr ⟨_, rfl⟩) (Or.inr ⟨_, rfl⟩) (dk rfl) ⟨M, rfl, hM, hBM, hE, ms, by simp [hms, l1], ?_, ?_⟩ (Nat.le_refl _) (Nat.le_refl _)
      · rw [hMs, ← hms, filR_end]
      · intro k a r hk hr'
        rw [List.getElem?_map] at hr'
        cases hq : r1[k]? with
        | none => rw [hq] at hr'; cases hr'
        | some r0 =>
          rw [hq] at hr'
          cases hr'
          exact hrows k a r0 hk hq
    | succ d ih =>
      intro j hd hj hh ms hms hE hMs hrows
      obtain ⟨a, x, ha1, ha2, ha3⟩ := hra j (by omega)
      have hx := o1.2 x (List.mem_of_getElem? ha2)
      have hul := usedL_len r2 (M := 16) (fun r hr => (o2.2 r hr).2) (by decide) x
      repeat refine fst1_ok X (dk rfl) rfl ?_
      refine br_ok X (dk rfl) rfl (show ((11 : Nat) : Int) + 19 = ((30 : Nat) : Int) from rfl) (fun c1 => absurd c1 (nI_ge (b := 8) (by omega) (by omega))) (fun c1 => ?_)
      repeat refine fst1_ok X (dk rfl) rfl ?_
      refine ldr_ok X (dk rfl) (hE _ _ hAs) ha1 (by omega) ?_
      refine callS_ok (av := [.ref B, .ref a]) (r := [vI j, .ref M]) X E (c_used hh (hB.ext hE) (hE _ _ ha3) (by omega) (by omega) hx.1.lt (fun y hy hy10 => by rcases hx.1.2 y hy with q | q <;> omega) (by omega)) lkX10_used mlX10_120 lsX10_used ⟨Nat.le_of_ble_eq_true rfl, Nat.le_of_ble_eq_true rfl⟩ ⟨by show 1 + 17 * j + (1 + x.length) ≤ 137; omega, by show 8 + 272 * j + ((usedL r2 x).length + x.length) ≤ 2184; omega⟩ (Nat.le_of_ble_eq_true rfl) (dk rfl) ?_
      rintro v h2 ⟨q, rfl, hq, hBq, hE2, hq2⟩
      refine str_ok (j := j) X (dk rfl) (hE2 _ _ hMs) hq2 (by rw [filR_len (by omega)]; omega) (by rw [filR_len (by omega)]; omega) ?_
      have e1 : (filR ms 8).set j (.ref q) = filR (ms ++ [q]) 8 := by rw [← hms]; exact filR_set (by omega)
      rw [e1]
      repeat refine fst1_ok X (dk rfl) rfl ?_
      refine br_ok X (dk rfl) rfl (show ((27 : Nat) : Int) + (-19) = ((8 : Nat) : Int) from rfl) (fun _ => ?_) (fun q => absurd trivial q)
      have f2 : Value.int (nI j + Int32.ofInt 1) = vI (j + 1) := congrArg Value.int (by rw [nI_1', nI_add])
      refine WS.sel (l' := [(3, vI (j + 1)), (2, .ref M), (0, .ref A), (1, .ref B)]) [3, 2, 0, 1] (by rw [← f2]; rfl) ?_
      refine WS.widen (k' := 1 + 17 * (j + 1)) (n' := 8 + 272 * (j + 1)) (by show 1 + 17 * j + (1 + x.length) ≤ _; omega) (by show 8 + 272 * j + ((usedL r2 x).length + x.length) ≤ _; omega) ?_
      have hne : ∀ {a : Nat} {xs : List Nat}, h2 a = some (IA xs) → a ≠ M := by
        intro a xs e z
        rw [z, hE2 _ _ hMs] at e
        simp [IA] at e
      refine ih (j + 1) (by omega) (by omega) _ (ms ++ [q]) (by simp [hms]) ((hE.trans hE2).set hM _) (hup_self _ _ _) ?_
      intro k a r hk hr'
      rcases Nat.lt_or_ge k ms.length with hk2 | hk2
      · rw [List.getElem?_append_left hk2] at hk
        have e3 := hE2 _ _ (hrows k a r hk hr')
        rw [hup_ne _ _ (hne e3), e3]
      · rw [List.getElem?_append_right hk2] at hk
        have hz : k - ms.length < 1 := (List.getElem?_eq_some_iff.mp hk).1
        have hk3 : k = j := by omega
        rw [show k - ms.length = 0 by omega] at hk
        cases hk
        subst hk3
        rw [ha2] at hr'
        cases hr'
        rw [hup_ne _ _ (hne hq2), hq2]
  iterate 3 refine fst1_ok X (dk rfl) rfl ?_
  exact loop 8 0 rfl (by omega) _ [] rfl (Ext.new hM _) (by rw [hup_self, filR_0]) (fun k a r hk => by simp at hk)
end M11
