/-! the term at a place, rows behind each other, rows of rows -/
def Ext (h h' : AH) : Prop := ∀ (a : Nat) (c : AC), h a = some c → h' a = some c
theorem Ext.rf (h : AH) : Ext h h := fun _ _ e => e
theorem Ext.trans {h1 h2 h3 : AH} (a : Ext h1 h2) (b : Ext h2 h3) : Ext h1 h3 := fun x c e => b x c (a x c e)
theorem Ext.new {h : AH} {q : Nat} (hq : h q = none) (c : AC) : Ext h (hup h q c) := fun a c' e => by
  rw [hup_ne _ _ (fun z => by rw [z, hq] at e; cases e)]
  exact e
theorem Ext.set {h h' : AH} {q : Nat} (E : Ext h h') (hq : h q = none) (c : AC) : Ext h (hup h' q c) := fun a c' e => by
  rw [hup_ne _ _ (fun z => by rw [z, hq] at e; cases e)]
  exact E a c' e
/-- an array of rows -/
def Ans (h : AH) (A : Nat) (rows : List (List Nat)) : Prop := ∃ as : List Nat, as.length = rows.length ∧ h A = some (105, as.map Value.ref) ∧ ∀ (k a : Nat) (r : List Nat), as[k]? = some a → rows[k]? = some r → h a = some (IA r)
theorem Ans.ext {h h' : AH} {A : Nat} {rows : List (List Nat)} (H : Ans h A rows) (E : Ext h h') : Ans h' A rows := by
  obtain ⟨as, h1, h2, h3⟩ := H
  exact ⟨as, h1, E _ _ h2, fun k a r e1 e2 => E _ _ (h3 k a r e1 e2)⟩
section M6
variable {la : Launch} {D : va_G} {cA : Nat → ClassId} {B0 pa : Nat}
set_option maxHeartbeats 8000000 in
theorem c_isAt (h : AH) {a b f g k1 k2 : Nat} {xs ys : List Nat} (ha : h a = some (IA xs)) (hb : h b = some (IA ys)) (hn : xs.length < 2 ^ 9) (hn2 : ys.length < 2 ^ 9) (hx : ∀ x ∈ xs, x < 2 ^ 10) (hy : ∀ x ∈ ys, x < 2 ^ 10) (hk1 : endL 1 (xs.drop f) = some k1) (hk2 : endL 1 (ys.drop g) = some k2) :
    CT la D cA B0 pa yX10_isAt cX10_isAt 6 (some .boolean) (rmD 2 0 0) [.ref a, vI f, .ref b, vI g] h (fun v h' => v = some (.int (if (xs.drop f).take k1 = (ys.drop g).take k2 then 1 else 0)) ∧ h' = h) := by
  refine CT_of (by decide +kernel) (Nat.le_of_ble_eq_true rfl) ?_
  intro p e s m args below meth c X E hr hlk hnm
  have dk : ∀ {pc : Nat} {q : Instr × Nat}, lkd DX10_isAt pc = some q → decode cX10_isAt pc = .ok q := lkd_ok DX10_isAt_ok
  have hle1 := endL_le hk1
  have hle2 := endL_le hk2
  have hf : f < xs.length := by
    rcases Nat.lt_or_ge f xs.length with q | q
    · exact q
    · rw [List.drop_eq_nil_of_le q] at hk1; simp [endL] at hk1
  have hg : g < ys.length := by
    rcases Nat.lt_or_ge g ys.length with q | q
    · exact q
    · rw [List.drop_eq_nil_of_le q] at hk2; simp [endL] at hk2
  rw [List.length_drop] at hle1 hle2
  repeat refine fst1_ok X (dk rfl) rfl ?_
  refine callS_ok (av := [.ref a, vI f]) (r := []) X E (c_end h ha hx (by omega) hk1) lkX10_end mlX10_36 lsX10_end ⟨Nat.le_of_ble_eq_true rfl, Nat.le_of_ble_eq_true rfl⟩ ⟨Nat.le_of_ble_eq_true rfl, Nat.le_of_ble_eq_true rfl⟩ (Nat.le_of_ble_eq_true rfl) (dk rfl) ?_
  rintro v h' ⟨rfl, rfl⟩
  repeat refine fst1_ok X (dk rfl) rfl ?_
  rw [show nI (f + k1) - nI f = nI k1 by rw [nI_sub (by omega), Nat.add_sub_cancel_left]]
  refine callS_ok (av := [.ref b, vI g]) (r := [vI k1]) X E (c_end h' hb hy (by omega) hk2) lkX10_end mlX10_36 lsX10_end ⟨Nat.le_of_ble_eq_true rfl, Nat.le_of_ble_eq_true rfl⟩ ⟨Nat.le_of_ble_eq_true rfl, Nat.le_of_ble_eq_true rfl⟩ (Nat.le_of_ble_eq_true rfl) (dk rfl) ?_
  rintro v h2 ⟨rfl, rfl⟩
  repeat refine fst1_ok X (dk rfl) rfl ?_
  rw [show nI (g + k2) - nI g = nI k2 by rw [nI_sub (by omega), Nat.add_sub_cancel_left]]
  refine br_ok X (dk rfl) rfl (show ((18 : Nat) : Int) + 5 = ((23 : Nat) : Int) from rfl) (fun c1 => ?_) (fun c1 => ?_)
  · have hkk : k1 = k2 := (nI_eq (by omega) (by omega)).mp c1
    subst hkk
    have loop : ∀ (d j : Nat), d = k1 - j → j ≤ k1 → ((xs.drop f).take k1 = (ys.drop g).take k1 ↔ ((xs.drop (f + j)).take (k1 - j) = (ys.drop (g + j)).take (k1 - j))) → WR p la e (rmD 2 0 0) s m args below meth c D cA B0 6 (fun v h' => v = some (.int (if (xs.drop f).take k1 = (ys.drop g).take k1 then 1 else 0)) ∧ h' = h2) 26 [(5, vI (f + j)), (4, vI (f + k1)), (0, .ref a), (1, vI f), (2, .ref b), (3, vI g)] [] h2 0 0 := by
      intro d
      induction d with
      | zero =>
        intro j hd hj hiff
        have hj2 : j = k1 := by omega
        subst hj2
        repeat refine fst1_ok X (dk rfl) rfl ?_
        refine br_ok X (dk rfl) rfl (show ((30 : Nat) : Int) + 26 = ((56 : Nat) : Int) from rfl) (fun c1 => ?_) (fun c1 => absurd (Int32.le_refl _) c1)
        repeat refine fst1_ok X (dk rfl) rfl ?_
        refine reti_ok X hr hlk rfl (dk rfl) ⟨?_, rfl⟩ (Nat.le_refl _) (Nat.le_refl _)
        rw [if_pos (hiff.mpr (by simp))]
        rfl
      | succ d ih =>
        intro j hd hj hiff
        obtain ⟨x, hx1⟩ : ∃ x, xs[f + j]? = some x := ⟨xs[f + j]'(by omega), by simp⟩
        obtain ⟨y, hy1⟩ : ∃ y, ys[g + j]? = some y := ⟨ys[g + j]'(by omega), by simp⟩
        have hx2 := hx x (List.mem_of_getElem? hx1)
        have hy2 := hy y (List.mem_of_getElem? hy1)
        repeat refine fst1_ok X (dk rfl) rfl ?_
        refine br_ok X (dk rfl) rfl (show ((30 : Nat) : Int) + 26 = ((56 : Nat) : Int) from rfl) (fun c1 => absurd c1 (nI_ge (by omega) (by omega))) (fun c1 => ?_)
        repeat refine fst1_ok X (dk rfl) rfl ?_
        refine ald_ok X (Or.inl ⟨rfl, rfl⟩) (dk rfl) ha (inA_nI (by omega) (IA_get hx1)) ?_
        repeat refine fst1_ok X (dk rfl) rfl ?_
        rw [show nI g + nI (f + j) - nI f = nI (g + j) by rw [nI_add, nI_sub (by omega)]; congr 1; omega]
        refine ald_ok X (Or.inl ⟨rfl, rfl⟩) (dk rfl) hb (inA_nI (by omega) (IA_get hy1)) ?_
        have e1 : k1 - j = (k1 - (j + 1)) + 1 := by omega
        rw [drop_cons hx1, drop_cons hy1, e1, List.take_succ_cons, List.take_succ_cons] at hiff
        refine br_ok X (dk rfl) rfl (show ((45 : Nat) : Int) + 5 = ((50 : Nat) : Int) from rfl) (fun c4 => ?_) (fun c4 => ?_)
        · have hxy : x = y := (nI_eq (by omega) (by omega)).mp c4
          subst hxy
          repeat refine fst1_ok X (dk rfl) rfl ?_
          refine br_ok X (dk rfl) rfl (show ((53 : Nat) : Int) + (-27) = ((26 : Nat) : Int) from rfl) (fun _ => ?_) (fun q => absurd trivial q)
          have f2 : Value.int (nI (f + j) + Int32.ofInt 1) = vI (f + (j + 1)) := congrArg Value.int (by rw [nI_1', nI_add]; rfl)
          refine WS.loc (l' := [(5, vI (f + (j + 1))), (4, vI (f + k1)), (0, .ref a), (1, vI f), (2, .ref b), (3, vI g)]) [0, 1, 2, 3, 4, 5] (by rw [← f2]; rfl) ?_
          refine ih (j + 1) (by omega) (by omega) (hiff.trans ?_)
          rw [List.cons.injEq]
          simp only [true_and]
          rfl
        · have hxy : ¬ x = y := fun z => c4 (by rw [z])
          repeat refine fst1_ok X (dk rfl) rfl ?_
          refine reti_ok X hr hlk rfl (dk rfl) ⟨?_, rfl⟩ (Nat.le_refl _) (Nat.le_refl _)
          rw [if_neg (fun z => by have := hiff.mp z; rw [List.cons.injEq] at this; exact hxy this.1)]
          rfl
    iterate 2 refine fst1_ok X (dk rfl) rfl ?_
    exact loop k1 0 rfl (Nat.zero_le _) (by simp)
  · have hne : ¬ k1 = k2 := fun z => c1 (by rw [z])
    repeat refine fst1_ok X (dk rfl) rfl ?_
    refine reti_ok X hr hlk rfl (dk rfl) ⟨?_, rfl⟩ (Nat.le_refl _) (Nat.le_refl _)
    rw [if_neg (fun z => by have := congrArg List.length z; simp at this; omega)]
    rfl
set_option maxHeartbeats 8000000 in
theorem c_joined (h : AH) {a b : Nat} {xs ys : List Nat} (ha : h a = some (IA xs)) (hb : h b = some (IA ys)) (hn : xs.length < 2 ^ 8) (hn2 : ys.length < 2 ^ 8) : CT la D cA B0 pa yX10_joined cX10_joined 4 (some (.array .int)) (rmD 0 1 (xs.length + ys.length)) [.ref a, .ref b] h (newA B0 h (xs ++ ys)) := by
  refine CT_of (by decide +kernel) (Nat.le_of_ble_eq_true rfl) ?_
  intro p e s m args below meth c X E hr hlk hnm
  have dk : ∀ {pc : Nat} {q : Instr × Nat}, lkd DX10_joined pc = some q → decode cX10_joined pc = .ok q := lkd_ok DX10_joined_ok
  have la' : (xs.map vI).length = xs.length := List.length_map _
  have lb' : (ys.map vI).length = ys.length := List.length_map _
  have ll : (xs ++ ys).length = xs.length + ys.length := List.length_append
  repeat refine fst1_ok X (dk rfl) rfl ?_
  refine alen_ok X (by decide) (dk rfl) ha ?_
  repeat refine fst1_ok X (dk rfl) rfl ?_
  refine alen_ok X (by decide) (dk rfl) hb ?_
  repeat refine fst1_ok X (dk rfl) rfl ?_
  rw [la', lb', nI_add]
  refine newI_ok (N := xs.length + ys.length) X (by omega) (dk rfl) (by show 0 + 1 ≤ 1; omega) (by show 0 + (xs.length + ys.length) ≤ xs.length + ys.length; omega) (fun q hq hB => ?_)
  have haq : a ≠ q := fun z => by rw [z, hq] at ha; cases ha
  have hbq : b ≠ q := fun z => by rw [z, hq] at hb; cases hb
  have loop : ∀ (d j : Nat), d = xs.length + ys.length - j → j ≤ xs.length + ys.length → WR p la e (rmD 0 1 (xs.length + ys.length)) s m args below meth c D cA B0 4 (newA B0 h (xs ++ ys)) 10 [(3, vI j), (2, .ref q), (0, .ref a), (1, .ref b)] [] (hup h q (100, fillV (xs ++ ys) j)) (0 + 1) (0 + (xs.length + ys.length)) := by
    intro d
    induction d with
    | zero =>
      intro j hd hj
      have hj2 : j = xs.length + ys.length := by omega
      subst hj2
      repeat refine fst1_ok X (dk rfl) rfl ?_
      refine alen_ok X (by decide) (dk rfl) (hup_self _ _ _) ?_
      rw [fill_len _ (by omega), ll]
      refine br_ok X (dk rfl) rfl (show ((13 : Nat) : Int) + 30 = ((43 : Nat) : Int) from rfl) (fun c1 => ?_) (fun c1 => absurd (Int32.le_refl _) c1)
      repeat refine fst1_ok X (dk rfl) rfl ?_
      refine reta_ok X hr hlk (Or.inr ⟨_, rfl⟩) (Or.inr ⟨_, rfl⟩) (dk rfl) ⟨q, rfl, hq, hB, ?_⟩ (by show 0 + 1 ≤ 1; omega) (by show 0 + (xs.length + ys.length) ≤ xs.length + ys.length; omega)
      rw [← ll, fill_end]
      rfl
    | succ d ih =>
      intro j hd hj
      obtain ⟨y, hy1⟩ : ∃ y, (xs ++ ys)[j]? = some y := ⟨(xs ++ ys)[j]'(by omega), by simp⟩
      have fin' : WR p la e (rmD 0 1 (xs.length + ys.length)) s m args below meth c D cA B0 4 (newA B0 h (xs ++ ys)) 36 [(3, vI j), (2, .ref q), (0, .ref a), (1, .ref b)] [vI y, vI j, .ref q] (hup h q (100, fillV (xs ++ ys) j)) (0 + 1) (0 + (xs.length + ys.length)) := by
        refine sti_ok X (dk rfl) (hup_self _ _ _) (by rw [fill_len _ (by omega)]; omega) (by rw [fill_len _ (by omega)]; omega) ?_
        rw [hup_hup, show Value.int (nI y) = vI y from rfl, fill_set hy1]
        repeat refine fst1_ok X (dk rfl) rfl ?_
        refine br_ok X (dk rfl) rfl (show ((40 : Nat) : Int) + (-30) = ((10 : Nat) : Int) from rfl) (fun _ => ?_) (fun q => absurd trivial q)
        have f2 : Value.int (nI j + Int32.ofInt 1) = vI (j + 1) := congrArg Value.int (by rw [nI_1', nI_add])
        refine WS.loc (l' := [(3, vI (j + 1)), (2, .ref q), (0, .ref a), (1, .ref b)]) [0, 1, 2, 3] (by rw [← f2]; rfl) ?_
        exact ih (j + 1) (by omega) (by omega)
      repeat refine fst1_ok X (dk rfl) rfl ?_
      refine alen_ok X (by decide) (dk rfl) (hup_self _ _ _) ?_
      rw [fill_len _ (by omega), ll]
      refine br_ok X (dk rfl) rfl (show ((13 : Nat) : Int) + 30 = ((43 : Nat) : Int) from rfl) (fun c1 => absurd c1 (nI_ge (by omega) (by omega))) (fun c1 => ?_)
      repeat refine fst1_ok X (dk rfl) rfl ?_
      refine alen_ok (kd := 100) (vs := xs.map vI) X (by decide) (dk rfl) (by rw [hup_ne _ _ haq]; exact ha) ?_
      rw [la']
      refine br_ok X (dk rfl) rfl (show ((21 : Nat) : Int) + 9 = ((30 : Nat) : Int) from rfl) (fun c2 => ?_) (fun c2 => ?_)
      · have h1 : xs.length ≤ j := nI_ge' (by omega) (by omega) c2
        rw [List.getElem?_append_right h1] at hy1
        repeat refine fst1_ok X (dk rfl) rfl ?_
        refine alen_ok (kd := 100) (vs := xs.map vI) X (by decide) (dk rfl) (by rw [hup_ne _ _ haq]; exact ha) ?_
        repeat refine fst1_ok X (dk rfl) rfl ?_
        rw [la', nI_sub h1]
        refine ald_ok X (Or.inl ⟨rfl, rfl⟩) (dk rfl) (by rw [hup_ne _ _ hbq]; exact hb) (inA_nI (by omega) (IA_get hy1)) ?_
        exact fin'
      · have h1 : j < xs.length := nI_lt' (by omega) (by omega) c2
        rw [List.getElem?_append_left h1] at hy1
        repeat refine fst1_ok X (dk rfl) rfl ?_
        refine ald_ok X (Or.inl ⟨rfl, rfl⟩) (dk rfl) (by rw [hup_ne _ _ haq]; exact ha) (inA_nI (by omega) (IA_get hy1)) ?_
        refine br_ok X (dk rfl) rfl (show ((27 : Nat) : Int) + 9 = ((36 : Nat) : Int) from rfl) (fun _ => ?_) (fun q => absurd trivial q)
        exact fin'
  iterate 3 refine fst1_ok X (dk rfl) rfl ?_
  have hl := loop _ 0 rfl (Nat.zero_le _)
  rw [fill_0, ll] at hl
  exact hl
end M6
