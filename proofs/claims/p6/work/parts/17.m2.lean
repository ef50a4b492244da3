/-! rows that are made and filled -/
set_option maxRecDepth 100000 in
theorem wi_int : Cond.arrayClass (newarray.typeOf .int) ∈ WT := WT_of (by decide +kernel) rfl
set_option maxRecDepth 100000 in
theorem wi_bool : Cond.arrayClass (newarray.typeOf .boolean) ∈ WT := WT_of (by decide +kernel) rfl
theorem hup_hup (h : AH) (q : Nat) (c c' : AC) : hup (hup h q c) q c' = hup h q c' := by
  funext b
  by_cases e : b = q <;> simp [hup, e]
def fillV (ys : List Nat) (j : Nat) : List Value := (ys.take j).map vI ++ List.replicate (ys.length - j) (.int 0)
theorem fill_0 (ys : List Nat) : fillV ys 0 = List.replicate ys.length (.int 0) := by simp [fillV]
theorem fill_end (ys : List Nat) : fillV ys ys.length = ys.map vI := by simp [fillV]
theorem fill_len (ys : List Nat) {j : Nat} (h : j ≤ ys.length) : (fillV ys j).length = ys.length := by simp [fillV]; omega
theorem fill_set {ys : List Nat} {j y : Nat} (h : ys[j]? = some y) : (fillV ys j).set j (vI y) = fillV ys (j + 1) := by
  have hl : j < ys.length := (List.getElem?_eq_some_iff.mp h).1
  have hy : ys[j] = y := (List.getElem?_eq_some_iff.mp h).2
  have e1 : ys.take (j + 1) = ys.take j ++ [y] := by rw [List.take_succ, h]; rfl
  have e2 : ys.length - j = (ys.length - (j + 1)) + 1 := by omega
  unfold fillV
  rw [e1, e2, List.replicate_succ, List.set_append_right _ _ (by simp; omega), List.map_append, List.append_assoc]
  have e3 : j - ((ys.take j).map vI).length = 0 := by simp; omega
  rw [e3]
  rfl
/-- a new array, nothing else -/
def newA (B0 : Nat) (h : AH) (ys : List Nat) (v : Option Value) (h' : AH) : Prop := ∃ q : Nat, v = some (.ref q) ∧ h q = none ∧ B0 ≤ q ∧ h' = hup h q (IA ys)
abbrev WR (p : Program) (la : Launch) (e : Env) (rm : Room) (s : State) (m : MethodId) (args : Array Value) (below : List Frame) (meth : Method) (c : Code) (D : va_G) (cA : Nat → ClassId) (B0 nL : Nat) (post : Option Value → AH → Prop)
    (pc : Nat) (l : List (Nat × Value)) (st : List Value) (h : AH) (k n : Nat) : Prop := WS p la e rm s m args below meth c (MQ below (QC D cA B0 post) args s rm.cells rm.slots (fun q : Nat => B0 ≤ q)) D cA B0 nL pc l st h k n
section M2
variable {p : Program} {la : Launch} {e : Env} {R : Room} {s : State} {m : MethodId} {args : Array Value} {below : List Frame} {meth : Method} {c : Code} {Q : State → Prop}
variable {D : va_G} {cA : Nat → ClassId} {B0 pa nL : Nat} {cc : ByteArray} {own : String} {pc k n : Nat} {l : List (Nat × Value)} {r : List Value} {h : AH}
theorem newI_ok (X : CX p s m args c D cA B0 nL cc own) {N : Nat} (hN : N ≤ 1000) (hd : decode cc pc = .ok (.newarray .int, 2)) (hr1 : k + 1 ≤ R.cells) (hr2 : n + N ≤ R.slots)
    (kk : ∀ q : Nat, h q = none → B0 ≤ q → WS p la e R s m args below meth c Q D cA B0 nL (pc + 2) l (.ref q :: r) (hup h q (100, List.replicate N (.int 0))) (k + 1) (n + N)) : WS p la e R s m args below meth c Q D cA B0 nL pc l (.int (nI N) :: r) h k n := by
  have e : (nI N).toNatClampNeg = N := nI_clamp (by omega)
  refine newa_ok X (Or.inl ⟨rfl, rfl⟩) wi_int hd (nI_pos (by omega)) (by rw [e]; exact hN) hr1 (by rw [e]; exact hr2) ?_
  rw [e]
  exact kk
/-- a store in an int array -/
theorem sti_ok (X : CX p s m args c D cA B0 nL cc own) {a : Nat} {vs : List Value} {j : Nat} {x : Int32} (hd : decode cc pc = .ok (.iastore, 1)) (ha : h a = some (100, vs)) (hj : j < vs.length) (hl : vs.length < 2 ^ 31)
    (kk : WS p la e R s m args below meth c Q D cA B0 nL (pc + 1) l r (hup h a (100, vs.set j (.int x))) k n) : WS p la e R s m args below meth c Q D cA B0 nL pc l (.int x :: .int (nI j) :: .ref a :: r) h k n := by
  have e : (nI j).toNatClampNeg = j := nI_clamp (by omega)
  refine ast_ok X (Or.inl ⟨rfl, rfl, x, rfl⟩) hd ha ⟨nI_pos (by omega), by rw [e]; exact hj⟩ ?_
  rw [e]
  exact kk
end M2
section M3
variable {la : Launch} {D : va_G} {cA : Nat → ClassId} {B0 pa : Nat}
set_option maxHeartbeats 4000000 in
theorem c_row (h : AH) (x : Nat) : CT la D cA B0 pa yX10_row cX10_row 1 (some (.array .int)) (rmD 0 1 1) [vI x] h (newA B0 h [x]) := by
  refine CT_of (by decide +kernel) (Nat.le_of_ble_eq_true rfl) ?_
  intro p e s m args below meth c X E hr hlk hnm
  have dk : ∀ {pc : Nat} {q : Instr × Nat}, lkd DX10_row pc = some q → decode cX10_row pc = .ok q := lkd_ok DX10_row_ok
  repeat refine fst1_ok X (dk rfl) rfl ?_
  refine newI_ok (N := 1) X (by decide) (dk rfl) (by decide) (by decide) (fun q hq hB => ?_)
  repeat refine fst1_ok X (dk rfl) rfl ?_
  refine sti_ok (j := 0) X (dk rfl) (hup_self _ _ _) (by decide) (by decide) ?_
  rw [hup_hup]
  exact reta_ok X hr hlk (Or.inr ⟨_, rfl⟩) (Or.inr ⟨_, rfl⟩) (dk rfl) ⟨q, rfl, hq, hB, rfl⟩ (Nat.le_refl _) (Nat.le_refl _)
set_option maxHeartbeats 4000000 in
theorem c_piece (h : AH) {a f t : Nat} {xs ys : List Nat} (ha : h a = some (IA xs)) (hft : f ≤ t) (ht : t ≤ xs.length) (hn : xs.length < 2 ^ 9) (hy : ys = (xs.drop f).take (t - f)) : CT la D cA B0 pa yX10_piece cX10_piece 5 (some (.array .int)) (rmD 0 1 (t - f)) [.ref a, vI f, vI t] h (newA B0 h ys) := by
  refine CT_of (by decide +kernel) (Nat.le_of_ble_eq_true rfl) ?_
  intro p e s m args below meth c X E hr hlk hnm
  have dk : ∀ {pc : Nat} {q : Instr × Nat}, lkd DX10_piece pc = some q → decode cX10_piece pc = .ok q := lkd_ok DX10_piece_ok
  have hyl : ys.length = t - f := by rw [hy]; simp; omega
  have hyj : ∀ j, j < t - f → ∃ y, ys[j]? = some y ∧ xs[f + j]? = some y := by
    intro j hj
    have h1 : f + j < xs.length := by omega
    refine ⟨xs[f + j], ?_, by simp [h1]⟩
    rw [hy, List.getElem?_take, if_pos hj, List.getElem?_drop]
    simp [h1]
  repeat refine fst1_ok X (dk rfl) rfl ?_
  rw [show nI t - nI f = nI (t - f) from nI_sub hft]
  refine newI_ok (N := t - f) X (by omega) (dk rfl) (by show 0 + 1 ≤ 1; omega) (by show 0 + (t - f) ≤ t - f; omega) (fun q hq hB => ?_)
  have haq : a ≠ q := fun z => by rw [z, hq] at ha; cases ha
  have loop : ∀ (d j : Nat), d = t - f - j → j ≤ t - f → WR p la e (rmD 0 1 (t - f)) s m args below meth c D cA B0 5 (newA B0 h ys) 9 [(4, vI j), (3, .ref q), (0, .ref a), (1, vI f), (2, vI t)] [] (hup h q (100, fillV ys j)) (0 + 1) (0 + (t - f)) := by
    intro d
    induction d with
    | zero =>
      intro j hd hj
      have hj2 : j = t - f := by omega
      subst hj2
      repeat refine fst1_ok X (dk rfl) rfl ?_
      refine alen_ok X (by decide) (dk rfl) (hup_self _ _ _) ?_
      rw [fill_len _ (by omega), hyl]
      refine br_ok X (dk rfl) rfl (show ((13 : Nat) : Int) + 19 = ((32 : Nat) : Int) from rfl) (fun c1 => ?_) (fun c1 => absurd (Int32.le_refl _) c1)
      repeat refine fst1_ok X (dk rfl) rfl ?_
      refine reta_ok X hr hlk (Or.inr ⟨_, rfl⟩) (Or.inr ⟨_, rfl⟩) (dk rfl) ⟨q, rfl, hq, hB, ?_⟩ (by show 0 + 1 ≤ 1; omega) (by show 0 + (t - f) ≤ t - f; omega)
      rw [← hyl, fill_end]
      rfl
    | succ d ih =>
      intro j hd hj
      obtain ⟨y, hy1, hy2⟩ := hyj j (by omega)
      repeat refine fst1_ok X (dk rfl) rfl ?_
      refine alen_ok X (by decide) (dk rfl) (hup_self _ _ _) ?_
      rw [fill_len _ (by omega), hyl]
      refine br_ok X (dk rfl) rfl (show ((13 : Nat) : Int) + 19 = ((32 : Nat) : Int) from rfl) (fun c1 => absurd c1 (nI_ge (by omega) (by omega))) (fun c1 => ?_)
      repeat refine fst1_ok X (dk rfl) rfl ?_
      rw [nI_add]
      refine ald_ok X (Or.inl ⟨rfl, rfl⟩) (dk rfl) (by rw [hup_ne _ _ haq]; exact ha) (inA_nI (by omega) (IA_get hy2)) ?_
      refine sti_ok X (dk rfl) (hup_self _ _ _) (by rw [fill_len _ (by omega)]; omega) (by rw [fill_len _ (by omega)]; omega) ?_
      rw [hup_hup, show Value.int (nI y) = vI y from rfl, fill_set hy1]
      repeat refine fst1_ok X (dk rfl) rfl ?_
      refine br_ok X (dk rfl) rfl (show ((29 : Nat) : Int) + (-20) = ((9 : Nat) : Int) from rfl) (fun _ => ?_) (fun q => absurd trivial q)
      have f2 : Value.int (nI j + Int32.ofInt 1) = vI (j + 1) := congrArg Value.int (by rw [nI_1', nI_add])
      refine WS.loc (l' := [(4, vI (j + 1)), (3, .ref q), (0, .ref a), (1, vI f), (2, vI t)]) [0, 1, 2, 3, 4] (by rw [← f2]; rfl) ?_
      exact ih (j + 1) (by omega) (by omega)
  iterate 3 refine fst1_ok X (dk rfl) rfl ?_
  have hl := loop (t - f) 0 (by omega) (by omega)
  rw [fill_0, hyl] at hl
  exact hl
end M3
