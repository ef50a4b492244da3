/-! comparing rows -/
def diffAt : List Nat → List Nat → Option Nat
  | [], [] => none
  | [], _ :: _ => some 0
  | _ :: _, [] => some 0
  | x :: xs, y :: ys => if x = y then (diffAt xs ys).map (· + 1) else some 0
theorem diffAt_none : ∀ {xs ys : List Nat}, diffAt xs ys = none ↔ xs = ys
  | [], [] => by simp [diffAt]
  | [], _ :: _ => by simp [diffAt]
  | _ :: _, [] => by simp [diffAt]
  | x :: xs, y :: ys => by
    by_cases h : x = y
    · subst h
      simp [diffAt, diffAt_none (xs := xs) (ys := ys)]
    · simp [diffAt, h]
theorem diffAt_lt : ∀ {xs ys : List Nat} {j : Nat}, diffAt xs ys = some j → j < max xs.length ys.length
  | [], [], j, h => by simp [diffAt] at h
  | [], _ :: _, j, h => by simp [diffAt] at h; subst h; simp
  | _ :: _, [], j, h => by simp [diffAt] at h; subst h; simp
  | x :: xs, y :: ys, j, h => by
    by_cases e : x = y
    · simp only [diffAt, e, if_true, Option.map_eq_some_iff] at h
      obtain ⟨i, hi, rfl⟩ := h
      have := diffAt_lt hi
      simp only [List.length_cons]
      omega
    · simp [diffAt, e] at h
      subst h
      simp only [List.length_cons]
      omega
/-- a place, or NONE -/
def vP (o : Option Nat) : Value := match o with
  | some k => vI k
  | none => .int (Int32.ofInt (-1))
section MX
variable {p : Program} {la : Launch} {e : Env} {R : Room} {s : State} {m : MethodId} {args : Array Value} {below : List Frame} {meth : Method} {c : Code} {Q : State → Prop}
variable {D : va_G} {cA : Nat → ClassId} {B0 pa nL : Nat} {cc : ByteArray} {own : String} {pc k n : Nat} {l : List (Nat × Value)} {r : List Value} {h : AH}
theorem mmax_ok (X : CX p s m args c D cA B0 nL cc own) {idx x y : Nat} (hx : x < 2 ^ 20) (hy : y < 2 ^ 20) (hl : Cond.methodLink own idx yJ9_max_7cf53 ∈ WT) (hd : decode cc pc = .ok (.invokestatic idx, 3)) (hfr : 1 ≤ R.frames) (hlo : (r.map fun v => v.category).sum + 13 ≤ R.locals) (h1 : k ≤ R.cells) (h2 : n ≤ R.slots)
    (kk : WS p la e R s m args below meth c Q D cA B0 nL (pc + 3) l (vI (max x y) :: r) h k n) : WS p la e R s m args below meth c Q D cA B0 nL pc l (.int (nI y) :: .int (nI x) :: r) h k n := by
  intro H locs ls hH hls
  refine va_mmax X.1 X.2.1 (X.2.2.1.trans hls.1.symm) X.2.2.2.1 (X.2.2.2.2.1 _ hl) (X.2.2.2.2.1 _ lsJ9_max_7cf53) (X.2.2.2.2.1 _ liJ9) (X.2.2.2.2.1 _ lcJ9_max_7cf53) hfr hlo h1 h2 hd ?_
  have e : (if nI x < nI y then nI y else nI x) = nI (max x y) := by
    by_cases q : x < y
    · rw [if_pos ((nI_ltI (by omega) (by omega)).mpr q), Nat.max_eq_right (by omega)]
    · rw [if_neg (fun z => q ((nI_ltI (by omega) (by omega)).mp z)), Nat.max_eq_left (by omega)]
  rw [e]
  exact kk H locs ls hH hls
theorem mmin_ok (X : CX p s m args c D cA B0 nL cc own) {idx x y : Nat} (hx : x < 2 ^ 20) (hy : y < 2 ^ 20) (hl : Cond.methodLink own idx yJ9_min_7cf53 ∈ WT) (hd : decode cc pc = .ok (.invokestatic idx, 3)) (hfr : 1 ≤ R.frames) (hlo : (r.map fun v => v.category).sum + 13 ≤ R.locals) (h1 : k ≤ R.cells) (h2 : n ≤ R.slots)
    (kk : WS p la e R s m args below meth c Q D cA B0 nL (pc + 3) l (vI (min x y) :: r) h k n) : WS p la e R s m args below meth c Q D cA B0 nL pc l (.int (nI y) :: .int (nI x) :: r) h k n := by
  intro H locs ls hH hls
  refine va_mmin X.1 X.2.1 (X.2.2.1.trans hls.1.symm) X.2.2.2.1 (X.2.2.2.2.1 _ hl) (X.2.2.2.2.1 _ lsJ9_min_7cf53) (X.2.2.2.2.1 _ liJ9) (X.2.2.2.2.1 _ lcJ9_min_7cf53) hfr hlo h1 h2 hd ?_
  have e : (if nI y < nI x then nI y else nI x) = nI (min x y) := by
    by_cases q : y < x
    · rw [if_pos ((nI_ltI (by omega) (by omega)).mpr q), Nat.min_eq_right (by omega)]
    · rw [if_neg (fun z => q ((nI_ltI (by omega) (by omega)).mp z)), Nat.min_eq_left (by omega)]
  rw [e]
  exact kk H locs ls hH hls
end MX
theorem drop_cons {xs : List Nat} {j x : Nat} (h : xs[j]? = some x) : xs.drop j = x :: xs.drop (j + 1) := by
  obtain ⟨hl, rfl⟩ := List.getElem?_eq_some_iff.mp h
  exact List.drop_eq_getElem_cons hl
theorem nI_ge' {a b : Nat} (hb : b < 2 ^ 31) (ha : a < 2 ^ 31) (c : nI a ≤ nI b) : a ≤ b := (nI_leI ha hb).mp c
theorem nI_lt' {a b : Nat} (hb : b < 2 ^ 31) (ha : a < 2 ^ 31) (c : ¬ nI a ≤ nI b) : b < a := by
  rcases Nat.lt_or_ge b a with q | q
  · exact q
  · exact absurd ((nI_leI ha hb).mpr q) c
section M5
variable {la : Launch} {D : va_G} {cA : Nat → ClassId} {B0 pa : Nat}
set_option maxHeartbeats 8000000 in
theorem c_first (h : AH) {a b : Nat} {xs ys : List Nat} (ha : h a = some (IA xs)) (hb : h b = some (IA ys)) (hn : xs.length < 2 ^ 9) (hn2 : ys.length < 2 ^ 9) (hx : ∀ x ∈ xs, x < 2 ^ 10) (hy : ∀ x ∈ ys, x < 2 ^ 10) : CT la D cA B0 pa yX10_first cX10_first 3 (some .int) (rmD 1 0 0) [.ref a, .ref b] h (fun v h' => v = some (vP (diffAt xs ys)) ∧ h' = h) := by
  refine CT_of (by decide +kernel) (Nat.le_of_ble_eq_true rfl) ?_
  intro p e s m args below meth c X E hr hlk hnm
  have dk : ∀ {pc : Nat} {q : Instr × Nat}, lkd DX10_first pc = some q → decode cX10_first pc = .ok q := lkd_ok DX10_first_ok
  have la' : (xs.map vI).length = xs.length := List.length_map _
  have lb' : (ys.map vI).length = ys.length := List.length_map _
  have loop : ∀ (d j : Nat), d = max xs.length ys.length - j → j ≤ max xs.length ys.length → diffAt xs ys = (diffAt (xs.drop j) (ys.drop j)).map (· + j) → WR p la e (rmD 1 0 0) s m args below meth c D cA B0 3 (fun v h' => v = some (vP (diffAt xs ys)) ∧ h' = h) 2 [(2, vI j), (0, .ref a), (1, .ref b)] [] h 0 0 := by
    intro d
    induction d with
    | zero =>
      intro j hd hj hdf
      have h1 : xs.length ≤ j := by omega
      have h2 : ys.length ≤ j := by omega
      repeat refine fst1_ok X (dk rfl) rfl ?_
      refine alen_ok X (by decide) (dk rfl) ha ?_
      repeat refine fst1_ok X (dk rfl) rfl ?_
      refine alen_ok X (by decide) (dk rfl) hb ?_
      rw [la', lb']
      refine mmax_ok X (by omega) (by omega) mlX10_48 (dk rfl) (by decide) (Nat.le_of_ble_eq_true rfl) (by decide) (by decide) ?_
      refine br_ok X (dk rfl) rfl (show ((10 : Nat) : Int) + 32 = ((42 : Nat) : Int) from rfl) (fun c1 => ?_) (fun c1 => absurd (nI_le (by omega) (by omega)) c1)
      repeat refine fst1_ok X (dk rfl) rfl ?_
      refine reti_ok X hr hlk rfl (dk rfl) ⟨?_, rfl⟩ (Nat.le_refl _) (Nat.le_refl _)
      rw [hdf, List.drop_eq_nil_of_le h1, List.drop_eq_nil_of_le h2]
      rfl
    | succ d ih =>
      intro j hd hj hdf
      repeat refine fst1_ok X (dk rfl) rfl ?_
      refine alen_ok X (by decide) (dk rfl) ha ?_
      repeat refine fst1_ok X (dk rfl) rfl ?_
      refine alen_ok X (by decide) (dk rfl) hb ?_
      rw [la', lb']
      refine mmax_ok X (by omega) (by omega) mlX10_48 (dk rfl) (by decide) (Nat.le_of_ble_eq_true rfl) (by decide) (by decide) ?_
      refine br_ok X (dk rfl) rfl (show ((10 : Nat) : Int) + 32 = ((42 : Nat) : Int) from rfl) (fun c1 => absurd c1 (nI_ge (by omega) (by omega))) (fun c1 => ?_)
      repeat refine fst1_ok X (dk rfl) rfl ?_
      refine alen_ok X (by decide) (dk rfl) ha ?_
      rw [la']
      refine br_ok X (dk rfl) rfl (show ((16 : Nat) : Int) + 18 = ((34 : Nat) : Int) from rfl) (fun c2 => ?_) (fun c2 => ?_)
      · have h1 : xs.length ≤ j := nI_ge' (by omega) (by omega) c2
        obtain ⟨y, hy1⟩ : ∃ y, ys[j]? = some y := ⟨ys[j]'(by omega), by simp⟩
        repeat refine fst1_ok X (dk rfl) rfl ?_
        refine reti_ok X hr hlk rfl (dk rfl) ⟨?_, rfl⟩ (Nat.le_refl _) (Nat.le_refl _)
        rw [hdf, List.drop_eq_nil_of_le h1, drop_cons hy1]
        simp [diffAt, vP, vI]
      · have h1 : j < xs.length := nI_lt' (by omega) (by omega) c2
        obtain ⟨x, hx1⟩ : ∃ x, xs[j]? = some x := ⟨xs[j]'h1, by simp⟩
        repeat refine fst1_ok X (dk rfl) rfl ?_
        refine alen_ok X (by decide) (dk rfl) hb ?_
        rw [lb']
        refine br_ok X (dk rfl) rfl (show ((22 : Nat) : Int) + 12 = ((34 : Nat) : Int) from rfl) (fun c3 => ?_) (fun c3 => ?_)
        · have h2 : ys.length ≤ j := nI_ge' (by omega) (by omega) c3
          repeat refine fst1_ok X (dk rfl) rfl ?_
          refine reti_ok X hr hlk rfl (dk rfl) ⟨?_, rfl⟩ (Nat.le_refl _) (Nat.le_refl _)
          rw [hdf, List.drop_eq_nil_of_le h2, drop_cons hx1]
          simp [diffAt, vP, vI]
        · have h2 : j < ys.length := nI_lt' (by omega) (by omega) c3
          obtain ⟨y, hy1⟩ : ∃ y, ys[j]? = some y := ⟨ys[j]'h2, by simp⟩
          have hx2 := hx x (List.mem_of_getElem? hx1)
          have hy2 := hy y (List.mem_of_getElem? hy1)
          repeat refine fst1_ok X (dk rfl) rfl ?_
          refine ald_ok X (Or.inl ⟨rfl, rfl⟩) (dk rfl) ha (inA_nI (by omega) (IA_get hx1)) ?_
          repeat refine fst1_ok X (dk rfl) rfl ?_
          refine ald_ok X (Or.inl ⟨rfl, rfl⟩) (dk rfl) hb (inA_nI (by omega) (IA_get hy1)) ?_
          rw [drop_cons hx1, drop_cons hy1] at hdf
          refine br_ok X (dk rfl) rfl (show ((31 : Nat) : Int) + 5 = ((36 : Nat) : Int) from rfl) (fun c4 => ?_) (fun c4 => ?_)
          · have hxy : x = y := (nI_eq (by omega) (by omega)).mp c4
            subst hxy
            repeat refine fst1_ok X (dk rfl) rfl ?_
            refine br_ok X (dk rfl) rfl (show ((39 : Nat) : Int) + (-37) = ((2 : Nat) : Int) from rfl) (fun _ => ?_) (fun q => absurd trivial q)
            have f2 : Value.int (nI j + Int32.ofInt 1) = vI (j + 1) := congrArg Value.int (by rw [nI_1', nI_add])
            refine WS.loc (l' := [(2, vI (j + 1)), (0, .ref a), (1, .ref b)]) [0, 1, 2] (by rw [← f2]; rfl) ?_
            refine ih (j + 1) (by omega) (by omega) ?_
            rw [hdf]
            simp only [diffAt, if_true, Option.map_map]
            congr 1
            funext z
            simp only [Function.comp_apply]
            omega
          · have hxy : ¬ x = y := fun z => c4 (by rw [z])
            repeat refine fst1_ok X (dk rfl) rfl ?_
            refine reti_ok X hr hlk rfl (dk rfl) ⟨?_, rfl⟩ (Nat.le_refl _) (Nat.le_refl _)
            rw [hdf]
            simp [diffAt, hxy, vP, vI]
  iterate 2 refine fst1_ok X (dk rfl) rfl ?_
  exact loop _ 0 rfl (Nat.zero_le _) (by simp)
set_option maxHeartbeats 4000000 in
theorem c_same (h : AH) {a b : Nat} {xs ys : List Nat} (ha : h a = some (IA xs)) (hb : h b = some (IA ys)) (hn : xs.length < 2 ^ 9) (hn2 : ys.length < 2 ^ 9) (hx : ∀ x ∈ xs, x < 2 ^ 10) (hy : ∀ x ∈ ys, x < 2 ^ 10) : CT la D cA B0 pa yX10_same cX10_same 2 (some .boolean) (rmD 2 0 0) [.ref a, .ref b] h (fun v h' => v = some (.int (if xs = ys then 1 else 0)) ∧ h' = h) := by
  refine CT_of (by decide +kernel) (Nat.le_of_ble_eq_true rfl) ?_
  intro p e s m args below meth c X E hr hlk hnm
  have dk : ∀ {pc : Nat} {q : Instr × Nat}, lkd DX10_same pc = some q → decode cX10_same pc = .ok q := lkd_ok DX10_same_ok
  repeat refine fst1_ok X (dk rfl) rfl ?_
  refine callS_ok (av := [.ref a, .ref b]) (r := []) X E (c_first h ha hb hn hn2 hx hy) lkX10_first mlX10_44 lsX10_first ⟨Nat.le_of_ble_eq_true rfl, Nat.le_of_ble_eq_true rfl⟩ ⟨Nat.le_of_ble_eq_true rfl, Nat.le_of_ble_eq_true rfl⟩ (Nat.le_of_ble_eq_true rfl) (dk rfl) ?_
  rintro v h' ⟨rfl, rfl⟩
  cases hdf : diffAt xs ys with
  | none =>
    refine br_ok X (dk rfl) rfl (show ((5 : Nat) : Int) + 7 = ((12 : Nat) : Int) from rfl) (fun c1 => absurd c1 (by decide)) (fun c1 => ?_)
    repeat refine fst1_ok X (dk rfl) rfl ?_
    refine br_ok X (dk rfl) rfl (show ((9 : Nat) : Int) + 4 = ((13 : Nat) : Int) from rfl) (fun _ => ?_) (fun q => absurd trivial q)
    exact reti_ok X hr hlk rfl (dk rfl) ⟨by rw [if_pos (diffAt_none.mp hdf)]; rfl, rfl⟩ (Nat.le_refl _) (Nat.le_refl _)
  | some j =>
    have hj : j < 2 ^ 20 := by have := diffAt_lt hdf; omega
    refine br_ok X (dk rfl) rfl (show ((5 : Nat) : Int) + 7 = ((12 : Nat) : Int) from rfl) (fun c1 => ?_) (fun c1 => absurd (nI_pos' (by omega)) c1)
    repeat refine fst1_ok X (dk rfl) rfl ?_
    have hne : ¬ xs = ys := fun z => by rw [diffAt_none.mpr z] at hdf; cases hdf
    exact reti_ok X hr hlk rfl (dk rfl) ⟨by rw [if_neg hne]; rfl, rfl⟩ (Nat.le_refl _) (Nat.le_refl _)
end M5
