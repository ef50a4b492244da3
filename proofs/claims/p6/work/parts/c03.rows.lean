/-! the class, strongly: letters into terms (printed by wip/p20/genS2.py) -/
theorem dropc {xs : List Int32} {j : Nat} {x : Int32} (h : xs[j]? = some x) : xs.drop j = x :: xs.drop (j + 1) := by
  obtain ⟨h1, rfl⟩ := List.getElem?_eq_some_iff.mp h
  exact List.drop_eq_getElem_cons h1
section CT2
variable {p : Program} {la : Launch} {e : Env} {R : Room} {s : State} {m : MethodId} {args : Array Value} {below : List Frame} {meth : Method} {c : Code} {Q : State → Prop}
variable {D : va_G} {cA : Nat → ClassId} {B0 pa nL : Nat} {cc : ByteArray} {own : String} {pc k n : Nat} {l : List (Nat × Value)} {r : List Value} {h : AH} {B Q' : Nat → Nat} {F' : Nat → TC}
/-- a call that changes terms alone -/
theorem callVT_ok (X : CX p s m args c D cA B0 nL cc own) (E : EN D cA B0 pa s) {y : MethodName} {bytes : ByteArray} {maxL idx ci b d : Nat} {av fs : List Value} {T : u_T} {N : Nat}
    (hM : CT la D cA B0 pa y bytes maxL none (rmD d 0 0) (.ref b :: av) h (TP B Q' F' h)) (hL : LK y bytes maxL av.length none) (hl : Cond.methodLink own idx y ∈ WT) (hi : Cond.instanceMethod y ∈ WT) (hse : Cond.selects y.cls y y ∈ WT) (hR : d + 1 ≤ R.frames ∧ 8 + (maxL + 11) + 40 * d ≤ R.locals) (hf : k ≤ R.cells ∧ n ≤ R.slots)
    (hc : vwCl[ci]? = some (y.cls, T, N)) (hb : h b = some (ci, fs)) (hW : (r.map fun v => v.category).sum ≤ 8) (hd : decode cc pc = .ok (.invokevirtual idx, 3))
    (kk : ∀ h' : AH, TS B Q' h' F' → FrT B Q' h h' → WS p la e R s m args below meth c Q D cA B0 nL (pc + 3) l r h' k n) : WS p la e R s m args below meth c Q D cA B0 nL pc l (av.reverse ++ .ref b :: r) h k n := by
  refine callV_ok (T := T) (N := N) X E hM hL hl hi hse hR hf hc hb hW hd ?_
  rintro _ h' ⟨rfl, S', f'⟩
  exact kk h' S' f'
end CT2
section S03
variable {la : Launch} {D : va_G} {cA : Nat → ClassId} {B0 pa : Nat} {B Q : Nat → Nat} {F : Nat → TC}
set_option maxHeartbeats 4000000 in
theorem s5_addRow (h : AH) (Y : LYO B Q) (S : TS B Q h F) {i : Nat} (hi : i < 52) {j : Nat} (hj : j < 52) (hij : j ≠ i) {a b : Nat} (hab : a ≤ b) (hb : b ≤ (F j).1.length) : CT la D cA B0 pa yX5_addRow cX5_addRow 5 none (rmD 1 0 0) [.ref (B i), .ref (B j), vI a, vI b] h (TP B Q (upF F i (addR (rmI i) (F i) (((F j).1.drop a).take (b - a)))) h) := by
  refine CT_of (by decide +kernel) (Nat.le_of_ble_eq_true rfl) ?_
  intro p e s m args below meth c X E hr hlk hnm
  have dk : ∀ {pc : Nat} {q : Instr × Nat}, lkd DX5_addRow pc = some q → decode cX5_addRow pc = .ok q := lkd_ok DX5_addRow_ok
  have hL := rmI_le j
  have hlen := (S j hj).1
  have loop : ∀ (d k : Nat) (t : TC) (h1 : AH), d = b - k → k ≤ b → TS B Q h1 (upF F i t) → FrT B Q h h1 → addR (rmI i) t (((F j).1.drop k).take (b - k)) = (addR (rmI i) (F i) (((F j).1.drop a).take (b - a))) → ∀ l : List (Nat × Value), lsel l [4, 3, 1, 0] = [(4, vI k), (3, vI b), (1, .ref (B j)), (0, .ref (B i))] → WR p la e (rmD 1 0 0) s m args below meth c D cA B0 5 (TP B Q (upF F i (addR (rmI i) (F i) (((F j).1.drop a).take (b - a)))) h) 3 l [] h1 0 0 := by
    intro d
    induction d with
    | zero =>
      intro k t h1 hd hk S1 f1 e l hl
      have hk2 : k = b := by omega
      subst hk2
      rw [Nat.sub_self, List.take_zero] at e
      have e2 : t = (addR (rmI i) (F i) (((F j).1.drop a).take (k - a))) := e
      rw [e2] at S1
      refine WS.sel [4, 3, 1, 0] hl ?_
      iterate 2 refine fst1_ok X (dk rfl) rfl ?_
      refine br_ok X (dk rfl) rfl (show ((6 : Nat) : Int) + 19 = ((25 : Nat) : Int) from rfl) (fun _ => ?_) (fun q => absurd (Int32.le_refl _) q)
      exact retv_ok X hr hlk (dk rfl) ⟨rfl, S1, f1⟩ (Nat.le_of_ble_eq_true rfl) (Nat.le_of_ble_eq_true rfl)
    | succ d ih =>
      intro k t h1 hd hk S1 f1 e l hl
      obtain ⟨x, hx⟩ : ∃ x, (F j).1[k]? = some x := ⟨_, List.getElem?_eq_getElem (by omega)⟩
      rw [dropc hx, show b - k = (b - (k + 1)) + 1 by omega, List.take_succ_cons] at e
      refine WS.sel [4, 3, 1, 0] hl ?_
      iterate 2 refine fst1_ok X (dk rfl) rfl ?_
      refine br_ok X (dk rfl) rfl (show ((6 : Nat) : Int) + 19 = ((25 : Nat) : Int) from rfl) (fun q => absurd q (nI_ge (by omega) (by omega))) (fun _ => ?_)
      iterate 3 refine fst1_ok X (dk rfl) rfl ?_
      refine callVR_ok (ci := 7) (T := TX5) (N := 3) (av := [vI k]) (r := [.ref (B i)]) X E (s5_letterAt h1 S1 hj (nI k)) lkX5_letterAt mlX5_29 lmX5_letterAt lpX5_letterAt ⟨Nat.le_of_ble_eq_true rfl, Nat.le_of_ble_eq_true rfl⟩ ⟨Nat.le_of_ble_eq_true rfl, Nat.le_of_ble_eq_true rfl⟩ rfl ⟨_, (S1 j hj).2.1⟩ (Nat.le_of_ble_eq_true rfl) (dk rfl) ?_
      rintro _ rfl
      rw [upF_ne _ _ hij, ltX_nI (by omega) hx]
      refine callVT_ok (ci := 7) (T := TX5) (N := 3) (av := [.int x]) (r := []) X E (s5_add h1 Y S1 hi x) lkX5_add mlX5_33 lmX5_add lpX5_add ⟨Nat.le_of_ble_eq_true rfl, Nat.le_of_ble_eq_true rfl⟩ ⟨Nat.le_of_ble_eq_true rfl, Nat.le_of_ble_eq_true rfl⟩ rfl (S1 i hi).2.1 (Nat.le_of_ble_eq_true rfl) (dk rfl) (fun h2 S2 f2 => ?_)
      rw [upF_self, upF_up] at S2
      refine fst1_ok X (dk rfl) rfl ?_
      refine br_ok X (dk rfl) rfl (show ((22 : Nat) : Int) + (-19) = ((3 : Nat) : Int) from rfl) (fun _ => ?_) (fun q => absurd trivial q)
      have f3 : Value.int (nI k + Int32.ofInt 1) = vI (k + 1) := congrArg Value.int (by rw [nI_1', nI_add])
      refine WS.sel (l' := [(4, vI (k + 1)), (3, vI b), (1, .ref (B j)), (0, .ref (B i))]) [4, 3, 1, 0] (by rw [← f3]; rfl) ?_
      exact ih (k + 1) (addC (rmI i) t x) h2 (by omega) (by omega) S2 (f1.trans f2) e _ rfl
  iterate 2 refine fst1_ok X (dk rfl) rfl ?_
  exact loop _ a (F i) h rfl hab (by rw [upF_same]; exact S) (FrT.rf h) rfl _ rfl
set_option maxHeartbeats 8000000 in
theorem s5_addTerm (h : AH) (Y : LYO B Q) (S : TS B Q h F) {i : Nat} (hi : i < 52) {j : Nat} (hj : j < 52) (hij : j ≠ i) : CT la D cA B0 pa yX5_addTerm cX5_addTerm 3 none (rmD 1 0 0) [.ref (B i), .ref (B j)] h (TP B Q (upF F i (addT (rmI i) (F i) (F j))) h) := by
  refine CT_of (by decide +kernel) (Nat.le_of_ble_eq_true rfl) ?_
  intro p e s m args below meth c X E hr hlk hnm
  have dk : ∀ {pc : Nat} {q : Instr × Nat}, lkd DX5_addTerm pc = some q → decode cX5_addTerm pc = .ok q := lkd_ok DX5_addTerm_ok
  have hL := rmI_le j
  have hlen := (S j hj).1
  have fin : ∀ (t : TC) (h1 : AH), TS B Q h1 (upF F i t) → FrT B Q h h1 → t = addR (rmI i) (F i) (F j).1 → ∀ (bb : Bool), bb = (t.2 || (F j).2) → ∀ l : List (Nat × Value), WR p la e (rmD 1 0 0) s m args below meth c D cA B0 3 (TP B Q (upF F i (addT (rmI i) (F i) (F j))) h) 45 l [.int (bI bb), .ref (B i)] h1 0 0 := by
    intro t h1 S1 f1 et bb hbb l
    obtain ⟨a1, a2, xs, a3, a4, a5⟩ := S1 i hi
    rw [upF_self] at a1 a2 a5
    refine putf_ok X flX5_25 ftX5_2 (Or.inl rfl) (bI_n bb) (by cases bb <;> rfl) (dk rfl) a2 (Nat.le_of_ble_eq_true rfl) ?_
    have S2 := TS.fld (t := (t.1, bb)) Y S1 hi a1 a3 a4 a5
    rw [upF_up] at S2
    have e2 : ((t.1, bb) : TC) = (addT (rmI i) (F i) (F j)) := by
      unfold addT
      rw [← et, hbb]
    rw [← e2]
    exact retv_ok X hr hlk (dk rfl) ⟨rfl, S2, f1.setB hi _⟩ (Nat.le_of_ble_eq_true rfl) (Nat.le_of_ble_eq_true rfl)
  have loop : ∀ (d k : Nat) (t : TC) (h1 : AH), d = (F j).1.length - k → k ≤ (F j).1.length → TS B Q h1 (upF F i t) → FrT B Q h h1 → addR (rmI i) t ((F j).1.drop k) = addR (rmI i) (F i) (F j).1 → ∀ l : List (Nat × Value), lsel l [2, 1, 0] = [(2, vI k), (1, .ref (B j)), (0, .ref (B i))] → WR p la e (rmD 1 0 0) s m args below meth c D cA B0 3 (TP B Q (upF F i (addT (rmI i) (F i) (F j))) h) 2 l [] h1 0 0 := by
    intro d
    induction d with
    | zero =>
      intro k t h1 hd hk S1 f1 e l hl
      have hk2 : k = (F j).1.length := by omega
      rw [hk2, List.drop_length] at e
      have e2 : t = addR (rmI i) (F i) (F j).1 := e
      obtain ⟨c1, c2, -⟩ := S1 j hj
      rw [upF_ne _ _ hij] at c2
      obtain ⟨b1, b2, -⟩ := S1 i hi
      rw [upF_self] at b2
      refine WS.sel [2, 1, 0] hl ?_
      iterate 2 refine fst1_ok X (dk rfl) rfl ?_
      refine getf_ok X flX5_21 (dk rfl) c2 rfl ?_
      refine br_ok X (dk rfl) rfl (show ((7 : Nat) : Int) + 18 = ((25 : Nat) : Int) from rfl) (fun _ => ?_) (fun q => absurd (by rw [hk2]; exact Int32.le_refl _) q)
      iterate 2 refine fst1_ok X (dk rfl) rfl ?_
      refine getf_ok X flX5_25 (dk rfl) b2 rfl ?_
      cases hb : t.2 with
      | true =>
        refine br_ok X (dk rfl) rfl (show ((30 : Nat) : Int) + 10 = ((40 : Nat) : Int) from rfl) (fun _ => ?_) (fun q => absurd bI_t q)
        refine fst1_ok X (dk rfl) rfl ?_
        refine br_ok X (dk rfl) rfl (show ((41 : Nat) : Int) + 4 = ((45 : Nat) : Int) from rfl) (fun _ => ?_) (fun q => absurd trivial q)
        exact fin t h1 S1 f1 e2 true (by rw [hb]; rfl) _
      | false =>
        refine br_ok X (dk rfl) rfl (show ((30 : Nat) : Int) + 10 = ((40 : Nat) : Int) from rfl) (fun q => absurd q bI_f) (fun _ => ?_)
        refine fst1_ok X (dk rfl) rfl ?_
        refine getf_ok X flX5_25 (dk rfl) c2 rfl ?_
        cases hb2 : (F j).2 with
        | false =>
          refine br_ok X (dk rfl) rfl (show ((37 : Nat) : Int) + 7 = ((44 : Nat) : Int) from rfl) (fun _ => ?_) (fun q => absurd bI_f' q)
          refine fst1_ok X (dk rfl) rfl ?_
          exact fin t h1 S1 f1 e2 false (by rw [hb, hb2]; rfl) _
        | true =>
          refine br_ok X (dk rfl) rfl (show ((37 : Nat) : Int) + 7 = ((44 : Nat) : Int) from rfl) (fun q => absurd q bI_t) (fun _ => ?_)
          refine fst1_ok X (dk rfl) rfl ?_
          refine br_ok X (dk rfl) rfl (show ((41 : Nat) : Int) + 4 = ((45 : Nat) : Int) from rfl) (fun _ => ?_) (fun q => absurd trivial q)
          exact fin t h1 S1 f1 e2 true (by rw [hb, hb2]; rfl) _
    | succ d ih =>
      intro k t h1 hd hk S1 f1 e l hl
      obtain ⟨x, hx⟩ : ∃ x, (F j).1[k]? = some x := ⟨_, List.getElem?_eq_getElem (by omega)⟩
      rw [dropc hx] at e
      obtain ⟨c1, c2, -⟩ := S1 j hj
      rw [upF_ne _ _ hij] at c2
      refine WS.sel [2, 1, 0] hl ?_
      iterate 2 refine fst1_ok X (dk rfl) rfl ?_
      refine getf_ok X flX5_21 (dk rfl) c2 rfl ?_
      refine br_ok X (dk rfl) rfl (show ((7 : Nat) : Int) + 18 = ((25 : Nat) : Int) from rfl) (fun q => absurd q (nI_ge (by omega) (by omega))) (fun _ => ?_)
      iterate 3 refine fst1_ok X (dk rfl) rfl ?_
      refine callVR_ok (ci := 7) (T := TX5) (N := 3) (av := [vI k]) (r := [.ref (B i)]) X E (s5_letterAt h1 S1 hj (nI k)) lkX5_letterAt mlX5_29 lmX5_letterAt lpX5_letterAt ⟨Nat.le_of_ble_eq_true rfl, Nat.le_of_ble_eq_true rfl⟩ ⟨Nat.le_of_ble_eq_true rfl, Nat.le_of_ble_eq_true rfl⟩ rfl ⟨_, (S1 j hj).2.1⟩ (Nat.le_of_ble_eq_true rfl) (dk rfl) ?_
      rintro _ rfl
      rw [upF_ne _ _ hij, ltX_nI (by omega) hx]
      refine callVT_ok (ci := 7) (T := TX5) (N := 3) (av := [.int x]) (r := []) X E (s5_add h1 Y S1 hi x) lkX5_add mlX5_33 lmX5_add lpX5_add ⟨Nat.le_of_ble_eq_true rfl, Nat.le_of_ble_eq_true rfl⟩ ⟨Nat.le_of_ble_eq_true rfl, Nat.le_of_ble_eq_true rfl⟩ rfl (S1 i hi).2.1 (Nat.le_of_ble_eq_true rfl) (dk rfl) (fun h2 S2 f2 => ?_)
      rw [upF_self, upF_up] at S2
      refine fst1_ok X (dk rfl) rfl ?_
      refine br_ok X (dk rfl) rfl (show ((22 : Nat) : Int) + (-20) = ((2 : Nat) : Int) from rfl) (fun _ => ?_) (fun q => absurd trivial q)
      have f3 : Value.int (nI k + Int32.ofInt 1) = vI (k + 1) := congrArg Value.int (by rw [nI_1', nI_add])
      refine WS.sel (l' := [(2, vI (k + 1)), (1, .ref (B j)), (0, .ref (B i))]) [2, 1, 0] (by rw [← f3]; rfl) ?_
      exact ih (k + 1) (addC (rmI i) t x) h2 (by omega) (by omega) S2 (f1.trans f2) e _ rfl
  iterate 2 refine fst1_ok X (dk rfl) rfl ?_
  exact loop _ 0 (F i) h rfl (Nat.zero_le _) (by rw [upF_same]; exact S) (FrT.rf h) (by rw [List.drop_zero]) _ rfl
set_option maxHeartbeats 4000000 in
theorem s5_becomeName (h : AH) (Y : LYO B Q) (S : TS B Q h F) {i : Nat} (hi : i < 52) (x : Int32) : CT la D cA B0 pa yX5_becomeName cX5_becomeName 2 none (rmD 1 0 0) [.ref (B i), .int x] h (TP B Q (upF F i ([x], false)) h) := by
  refine CT_of (by decide +kernel) (Nat.le_of_ble_eq_true rfl) ?_
  intro p e s m args below meth c X E hr hlk hnm
  have dk : ∀ {pc : Nat} {q : Instr × Nat}, lkd DX5_becomeName pc = some q → decode cX5_becomeName pc = .ok q := lkd_ok DX5_becomeName_ok
  refine fst1_ok X (dk rfl) rfl ?_
  refine callVT_ok (ci := 7) (T := TX5) (N := 3) (av := []) (r := []) X E (s5_empty h Y S hi) lkX5_empty mlX5_37 lmX5_empty lpX5_empty ⟨Nat.le_of_ble_eq_true rfl, Nat.le_of_ble_eq_true rfl⟩ ⟨Nat.le_of_ble_eq_true rfl, Nat.le_of_ble_eq_true rfl⟩ rfl (S i hi).2.1 (Nat.le_of_ble_eq_true rfl) (dk rfl) (fun h1 S1 f1 => ?_)
  iterate 2 refine fst1_ok X (dk rfl) rfl ?_
  refine callVT_ok (ci := 7) (T := TX5) (N := 3) (av := [.int x]) (r := []) X E (s5_add h1 Y S1 hi x) lkX5_add mlX5_33 lmX5_add lpX5_add ⟨Nat.le_of_ble_eq_true rfl, Nat.le_of_ble_eq_true rfl⟩ ⟨Nat.le_of_ble_eq_true rfl, Nat.le_of_ble_eq_true rfl⟩ rfl (S1 i hi).2.1 (Nat.le_of_ble_eq_true rfl) (dk rfl) (fun h2 S2 f2 => ?_)
  rw [upF_self, upF_up] at S2
  have e : addC (rmI i) ([], false) x = ([x], false) := if_pos (by have := rmI_ge i; show 0 < rmI i; omega)
  rw [e] at S2
  exact retv_ok X hr hlk (dk rfl) ⟨rfl, S2, f1.trans f2⟩ (Nat.le_of_ble_eq_true rfl) (Nat.le_of_ble_eq_true rfl)
set_option maxHeartbeats 4000000 in
theorem s5_becomeAs (h : AH) (Y : LYO B Q) (S : TS B Q h F) {i : Nat} (hi : i < 52) {j : Nat} (hj : j < 52) (hle : (F j).1.length ≤ rmI i) : CT la D cA B0 pa yX5_becomeAs cX5_becomeAs 2 none (rmD 2 0 0) [.ref (B i), .ref (B j)] h (TP B Q (upF F i (F j)) h) := by
  refine CT_of (by decide +kernel) (Nat.le_of_ble_eq_true rfl) ?_
  intro p e s m args below meth c X E hr hlk hnm
  have dk : ∀ {pc : Nat} {q : Instr × Nat}, lkd DX5_becomeAs pc = some q → decode cX5_becomeAs pc = .ok q := lkd_ok DX5_becomeAs_ok
  iterate 2 refine fst1_ok X (dk rfl) rfl ?_
  by_cases hij : j = i
  · subst hij
    refine br_ok X (dk rfl) rfl (show ((2 : Nat) : Int) + 12 = ((14 : Nat) : Int) from rfl) (fun _ => ?_) (fun q => absurd rfl q)
    rw [upF_same]
    exact retv_ok X hr hlk (dk rfl) ⟨rfl, S, FrT.rf h⟩ (Nat.le_of_ble_eq_true rfl) (Nat.le_of_ble_eq_true rfl)
  · refine br_ok X (dk rfl) rfl (show ((2 : Nat) : Int) + 12 = ((14 : Nat) : Int) from rfl) (fun q => absurd (Y.1 _ _ hj hi q) hij) (fun _ => ?_)
    refine fst1_ok X (dk rfl) rfl ?_
    refine callVT_ok (ci := 7) (T := TX5) (N := 3) (av := []) (r := []) X E (s5_empty h Y S hi) lkX5_empty mlX5_37 lmX5_empty lpX5_empty ⟨Nat.le_of_ble_eq_true rfl, Nat.le_of_ble_eq_true rfl⟩ ⟨Nat.le_of_ble_eq_true rfl, Nat.le_of_ble_eq_true rfl⟩ rfl (S i hi).2.1 (Nat.le_of_ble_eq_true rfl) (dk rfl) (fun h1 S1 f1 => ?_)
    iterate 2 refine fst1_ok X (dk rfl) rfl ?_
    refine callVT_ok (ci := 7) (T := TX5) (N := 3) (av := [.ref (B j)]) (r := []) X E (s5_addTerm h1 Y S1 hi hj hij) lkX5_addTerm mlX5_40 lmX5_addTerm lpX5_addTerm ⟨Nat.le_of_ble_eq_true rfl, Nat.le_of_ble_eq_true rfl⟩ ⟨Nat.le_of_ble_eq_true rfl, Nat.le_of_ble_eq_true rfl⟩ rfl (S1 i hi).2.1 (Nat.le_of_ble_eq_true rfl) (dk rfl) (fun h2 S2 f2 => ?_)
    rw [upF_self, upF_up, upF_ne _ _ hij] at S2
    have e : addT (rmI i) ([], false) (F j) = F j := by
      rw [addT_fit (by simpa using hle)]
      exact Prod.ext (List.nil_append _) (Bool.false_or _)
    rw [e] at S2
    exact retv_ok X hr hlk (dk rfl) ⟨rfl, S2, f1.trans f2⟩ (Nat.le_of_ble_eq_true rfl) (Nat.le_of_ble_eq_true rfl)
set_option maxHeartbeats 4000000 in
theorem s5_becomeBoth (h : AH) (Y : LYO B Q) (S : TS B Q h F) {i : Nat} (hi : i < 52) {j : Nat} (hj : j < 52) (hij : j ≠ i) {k : Nat} (hk : k < 52) (hik : k ≠ i) (hle : (F j).1.length + (F k).1.length ≤ rmI i) : CT la D cA B0 pa yX5_becomeBoth cX5_becomeBoth 3 none (rmD 2 0 0) [.ref (B i), .ref (B j), .ref (B k)] h (TP B Q (upF F i ((F j).1 ++ (F k).1, (F j).2 || (F k).2)) h) := by
  refine CT_of (by decide +kernel) (Nat.le_of_ble_eq_true rfl) ?_
  intro p e s m args below meth c X E hr hlk hnm
  have dk : ∀ {pc : Nat} {q : Instr × Nat}, lkd DX5_becomeBoth pc = some q → decode cX5_becomeBoth pc = .ok q := lkd_ok DX5_becomeBoth_ok
  refine fst1_ok X (dk rfl) rfl ?_
  refine callVT_ok (ci := 7) (T := TX5) (N := 3) (av := []) (r := []) X E (s5_empty h Y S hi) lkX5_empty mlX5_37 lmX5_empty lpX5_empty ⟨Nat.le_of_ble_eq_true rfl, Nat.le_of_ble_eq_true rfl⟩ ⟨Nat.le_of_ble_eq_true rfl, Nat.le_of_ble_eq_true rfl⟩ rfl (S i hi).2.1 (Nat.le_of_ble_eq_true rfl) (dk rfl) (fun h1 S1 f1 => ?_)
  iterate 2 refine fst1_ok X (dk rfl) rfl ?_
  refine callVT_ok (ci := 7) (T := TX5) (N := 3) (av := [.ref (B j)]) (r := []) X E (s5_addTerm h1 Y S1 hi hj hij) lkX5_addTerm mlX5_40 lmX5_addTerm lpX5_addTerm ⟨Nat.le_of_ble_eq_true rfl, Nat.le_of_ble_eq_true rfl⟩ ⟨Nat.le_of_ble_eq_true rfl, Nat.le_of_ble_eq_true rfl⟩ rfl (S1 i hi).2.1 (Nat.le_of_ble_eq_true rfl) (dk rfl) (fun h2 S2 f2 => ?_)
  rw [upF_self, upF_up, upF_ne _ _ hij, addT_fit (by show 0 + _ ≤ _; omega)] at S2
  iterate 2 refine fst1_ok X (dk rfl) rfl ?_
  refine callVT_ok (ci := 7) (T := TX5) (N := 3) (av := [.ref (B k)]) (r := []) X E (s5_addTerm h2 Y S2 hi hk hik) lkX5_addTerm mlX5_40 lmX5_addTerm lpX5_addTerm ⟨Nat.le_of_ble_eq_true rfl, Nat.le_of_ble_eq_true rfl⟩ ⟨Nat.le_of_ble_eq_true rfl, Nat.le_of_ble_eq_true rfl⟩ rfl (S2 i hi).2.1 (Nat.le_of_ble_eq_true rfl) (dk rfl) (fun h3 S3 f3 => ?_)
  rw [upF_self, upF_up, upF_ne _ _ hik, addT_fit (by show ([] ++ (F j).1).length + _ ≤ _; rw [List.nil_append]; omega)] at S3
  have e : ((([] ++ (F j).1 : List Int32), (false || (F j).2)) : TC) = F j := Prod.ext (List.nil_append _) (Bool.false_or _)
  have S4 : TS B Q h3 (upF F i ((F j).1 ++ (F k).1, (F j).2 || (F k).2)) := by
    have e2 : (false || (F j).2) = (F j).2 := Bool.false_or _
    rw [List.nil_append] at S3
    rw [e2] at S3
    exact S3
  exact retv_ok X hr hlk (dk rfl) ⟨rfl, S4, (f1.trans f2).trans f3⟩ (Nat.le_of_ble_eq_true rfl) (Nat.le_of_ble_eq_true rfl)
end S03
