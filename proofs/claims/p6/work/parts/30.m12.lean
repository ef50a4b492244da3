/-! plainOf -/
def plainStep (st : List Nat × Nat × List Nat) (x : Nat) : List Nat × Nat × List Nat :=
  if 10 ≤ x then (st.1, st.2.1, st.2.2 ++ [x]) else if st.1.getD x 0 = 0 then (st.1.set x (st.2.1 + 1), st.2.1 + 1, st.2.2 ++ [st.2.1]) else (st.1, st.2.1, st.2.2 ++ [st.1.getD x 0 - 1])
def plainS (xs : List Nat) : List Nat × Nat × List Nat := xs.foldl plainStep (List.replicate 8 0, 0, [])
def plainL (xs : List Nat) : List Nat := (plainS xs).2.2
/-- how many places of a row aren't 0 -/
def nz (xs : List Nat) : Nat := (xs.filter (fun x => decide (x ≠ 0))).length
theorem nz_set : ∀ {xs : List Nat} {j v : Nat}, xs[j]? = some 0 → v ≠ 0 → nz (xs.set j v) = nz xs + 1
  | [], j, v, h, hv => by simp at h
  | x :: r, 0, v, h, hv => by
    simp only [List.getElem?_cons_zero, Option.some.injEq] at h
    subst h
    simp [nz, List.filter_cons, hv]
  | x :: r, j + 1, v, h, hv => by
    simp only [List.getElem?_cons_succ] at h
    have ih := nz_set (xs := r) h hv
    unfold nz at ih ⊢
    rw [List.set_cons_succ, List.filter_cons, List.filter_cons]
    split <;> simp only [List.length_cons, ih]
theorem nz_le (xs : List Nat) : nz xs ≤ xs.length := List.length_filter_le _ _
def PI (st : List Nat × Nat × List Nat) (n : Nat) : Prop := st.1.length = 8 ∧ st.2.1 = nz st.1 ∧ (∀ x ∈ st.1, x ≤ st.2.1) ∧ st.2.2.length = n
theorem plainS_succ {xs : List Nat} {j x : Nat} (h : xs[j]? = some x) : plainS (xs.take (j + 1)) = plainStep (plainS (xs.take j)) x := foldl_take_succ _ _ h
theorem getD_mem {xs : List Nat} {j : Nat} (h : j < xs.length) : ∃ y, xs[j]? = some y ∧ xs.getD j 0 = y ∧ y ∈ xs := ⟨xs[j], by simp [h], by simp [List.getD_eq_getElem?_getD, h], List.getElem_mem h⟩
theorem PI_step {st : List Nat × Nat × List Nat} {n x : Nat} (h : PI st n) (hx : okL x) : PI (plainStep st x) (n + 1) ∧ (plainStep st x).2.1 ≤ 8 ∧ ∃ y, (plainStep st x).2.2 = st.2.2 ++ [y] ∧ okL y ∧ pF y = pF x := by
  obtain ⟨h1, h2, h3, h4⟩ := h
  have h8 := nz_le st.1
  unfold plainStep
  by_cases hx10 : 10 ≤ x
  · rw [if_pos hx10]
    exact ⟨⟨h1, h2, h3, by simp [h4]⟩, by dsimp only; omega, x, rfl, hx, rfl⟩
  · rw [if_neg hx10]
    have hx8 : x < 8 := by rcases hx with q | q <;> omega
    obtain ⟨y, hy1, hy2, hy3⟩ := getD_mem (xs := st.1) (j := x) (by omega)
    have hpx : pF x = 0 := by unfold pF; rw [if_pos (by omega)]
    rw [hy2]
    by_cases hy0 : y = 0
    · subst hy0
      rw [if_pos rfl]
      have hn := nz_set (v := st.2.1 + 1) hy1 (by omega)
      have h9 := nz_le (st.1.set x (st.2.1 + 1))
      rw [hn, List.length_set] at h9
      refine ⟨⟨by simp [h1], by dsimp only; rw [hn]; omega, fun z hz => ?_, by simp [h4]⟩, by dsimp only; omega, st.2.1, rfl, Or.inl (by omega), ?_⟩
      · dsimp only at hz ⊢
        rcases List.mem_or_eq_of_mem_set hz with q | q
        · have := h3 z q; omega
        · omega
      · rw [hpx]; unfold pF; rw [if_pos (by omega)]
    · rw [if_neg hy0]
      have hle := h3 y hy3
      refine ⟨⟨h1, h2, h3, by simp [h4]⟩, by dsimp only; omega, y - 1, rfl, Or.inl (by omega), ?_⟩
      rw [hpx]; unfold pF; rw [if_pos (by omega)]
theorem plainS_ok {xs : List Nat} (hx : ∀ x ∈ xs, okL x) : ∀ j, j ≤ xs.length → PI (plainS (xs.take j)) j ∧ (plainS (xs.take j)).2.1 ≤ 8 ∧ (∀ y ∈ (plainS (xs.take j)).2.2, okL y) ∧ (plainS (xs.take j)).2.2.map pF = (xs.take j).map pF := by
  intro j
  induction j with
  | zero =>
    intro _
    refine ⟨⟨rfl, rfl, fun x hx => ?_, rfl⟩, Nat.zero_le _, fun y hy => ?_, rfl⟩
    · have : x = 0 := by simpa [plainS] using hx
      omega
    · simp [plainS] at hy
  | succ j ih =>
    intro hj
    obtain ⟨x, hx1⟩ : ∃ x, xs[j]? = some x := ⟨xs[j]'(by omega), by simp⟩
    obtain ⟨i1, i2, i3, i4⟩ := ih (by omega)
    obtain ⟨p1, p2, y, p3, p4, p5⟩ := PI_step i1 (hx x (List.mem_of_getElem? hx1))
    rw [plainS_succ hx1]
    refine ⟨p1, p2, fun z hz => ?_, ?_⟩
    · rw [p3] at hz
      rcases List.mem_append.mp hz with q | q
      · exact i3 z q
      · simp at q; subst q; exact p4
    · rw [p3, List.map_append, i4, List.take_succ, hx1, List.map_append]
      simp [p5]
theorem endL_pF : ∀ (xs ys : List Nat) (n : Nat), xs.map pF = ys.map pF → endL n xs = endL n ys
  | [], [], n, _ => rfl
  | [], y :: ys, n, h => by simp at h
  | x :: xs, [], n, h => by simp at h
  | x :: xs, y :: ys, 0, _ => by simp [endL]
  | x :: xs, y :: ys, n + 1, h => by
    simp only [List.map_cons, List.cons.injEq] at h
    simp only [endL, h.1, endL_pF xs ys _ h.2]
theorem TW.plain {xs : List Nat} (h : TW xs) : TW (plainL xs) ∧ (plainL xs).length = xs.length := by
  have := plainS_ok h.2 xs.length (Nat.le_refl _)
  rw [List.take_length] at this
  obtain ⟨i1, i2, i3, i4⟩ := this
  have hl : (plainL xs).length = xs.length := i1.2.2.2
  exact ⟨⟨by rw [hl, ← h.1]; exact endL_pF _ _ 1 i4, i3⟩, hl⟩
def fillO (out : List Nat) (n : Nat) : List Value := out.map vI ++ List.replicate (n - out.length) (.int 0)
theorem fillO_len {out : List Nat} {n : Nat} (h : out.length ≤ n) : (fillO out n).length = n := by simp [fillO]; omega
theorem fillO_set {out : List Nat} {n y : Nat} (h : out.length < n) : (fillO out n).set out.length (vI y) = fillO (out ++ [y]) n := by
  have e2 : n - out.length = (n - (out.length + 1)) + 1 := by omega
  unfold fillO
  rw [e2, List.replicate_succ, List.set_append_right _ _ (by simp), List.map_append, List.append_assoc, List.length_append]
  simp
theorem fillO_end (out : List Nat) : fillO out out.length = out.map vI := by simp [fillO]
section M14
variable {la : Launch} {D : va_G} {cA : Nat → ClassId} {B0 pa : Nat}
set_option maxHeartbeats 16000000 in
theorem c_plainOf (h : AH) {a : Nat} {xs : List Nat} (ha : h a = some (IA xs)) (hx : ∀ x ∈ xs, okL x) (hn : xs.length ≤ 16) : CT la D cA B0 pa yX10_plainOf cX10_plainOf 5 (some (.array .int)) (rmD 0 2 (8 + xs.length)) [.ref a] h (newE B0 h (plainL xs)) := by
  refine CT_of (by decide +kernel) (Nat.le_of_ble_eq_true rfl) ?_
  intro p e s m args below meth c X E hr hlk hnm
  have dk : ∀ {pc : Nat} {q : Instr × Nat}, lkd DX10_plainOf pc = some q → decode cX10_plainOf pc = .ok q := lkd_ok DX10_plainOf_ok
  have la' : (xs.map vI).length = xs.length := List.length_map _
  repeat refine fst1_ok X (dk rfl) rfl ?_
  refine newI_ok (N := 8) X (by decide) (dk rfl) (by show 0 + 1 ≤ 2; omega) (by show 0 + 8 ≤ 8 + xs.length; omega) (fun f hf hBf => ?_)
  have haf : a ≠ f := fun z => by rw [z, hf] at ha; cases ha
  repeat refine fst1_ok X (dk rfl) rfl ?_
  refine alen_ok (kd := 100) (vs := xs.map vI) X (by decide) (dk rfl) (by rw [hup_ne _ _ haf]; exact ha) ?_
  rw [la']
  refine newI_ok (N := xs.length) X (by omega) (dk rfl) (by show 0 + 1 + 1 ≤ 2; omega) (by show 0 + 8 + xs.length ≤ 8 + xs.length; omega) (fun q hq hB => ?_)
  have hfq : f ≠ q := fun z => by rw [z, hup_self] at hq; cases hq
  have hq0 : h q = none := by rw [hup_ne _ _ (Ne.symm hfq)] at hq; exact hq
  have haq : a ≠ q := fun z => by rw [z, hq0] at ha; cases ha
  have loop : ∀ (d j : Nat), d = xs.length - j → j ≤ xs.length → ∀ (hh : AH) (l : List (Nat × Value)), lsel l [4, 3, 2, 1, 0] = [(4, vI j), (3, vI (plainS (xs.take j)).2.1), (2, .ref q), (1, .ref f), (0, .ref a)] → Ext h hh → hh f = some (IA (plainS (xs.take j)).1) → hh q = some (100, fillO (plainS (xs.take j)).2.2 xs.length) → WR p la e (rmD 0 2 (8 + xs.length)) s m args below meth c D cA B0 5 (newE B0 h (plainL xs)) 15 l [] hh (0 + 1 + 1) (0 + 8 + xs.length) := by
    intro d
    induction d with
    | zero =>
      intro j hd hj hh l hl hE hf1 hq1
      have hj2 : j = xs.length := by omega
      subst hj2
      have hP := (plainS_ok hx xs.length (Nat.le_refl _)).1
      rw [List.take_length] at hq1 hP
      refine WS.sel [4, 3, 2, 1, 0] hl ?_
      repeat refine fst1_ok X (dk rfl) rfl ?_
      refine alen_ok X (by decide) (dk rfl) (hE _ _ ha) ?_
      rw [la']
      refine br_ok X (dk rfl) rfl (show ((19 : Nat) : Int) + 60 = ((79 : Nat) : Int) from rfl) (fun c1 => ?_) (fun c1 => absurd (Int32.le_refl _) c1)
      repeat refine fst1_ok X (dk rfl) rfl ?_
      refine reta_ok X hr hlk (Or.inr ⟨_, rfl⟩) (Or.inr ⟨_, rfl⟩) (dk rfl) ⟨q, rfl, hq0, hB, hE, ?_⟩ (Nat.le_refl _) (by show 0 + 8 + xs.length ≤ 8 + xs.length; omega)
      rw [hq1, ← hP.2.2.2, fillO_end]
      rfl
    | succ d ih =>
      intro j hd hj hh l hl hE hf1 hq1
      obtain ⟨x, hx1⟩ : ∃ x, xs[j]? = some x := ⟨xs[j]'(by omega), by simp⟩
      have hok := hx x (List.mem_of_getElem? hx1)
      have hx18 := hok.lt
      obtain ⟨hP, hP8, -, -⟩ := plainS_ok hx j (by omega)
      obtain ⟨hQ, hQ8, -⟩ := PI_step hP hok
      have hS := plainS_succ hx1
      generalize hst : plainS (xs.take j) = st at hP hP8 hQ hQ8 hS hl hf1 hq1
      have f2 : Value.int (nI j + Int32.ofInt 1) = vI (j + 1) := congrArg Value.int (by rw [nI_1', nI_add])
      have back : ∀ (h4 : AH) (l : List (Nat × Value)), lsel l [4, 3, 2, 1, 0] = [(4, vI j), (3, vI (plainStep st x).2.1), (2, .ref q), (1, .ref f), (0, .ref a)] → Ext h h4 → h4 f = some (IA (plainStep st x).1) → h4 q = some (100, fillO (plainStep st x).2.2 xs.length) → WR p la e (rmD 0 2 (8 + xs.length)) s m args below meth c D cA B0 5 (newE B0 h (plainL xs)) 73 l [] h4 (0 + 1 + 1) (0 + 8 + xs.length) := by
        intro h4 l hl hE4 hf4 hq4
        refine WS.sel [4, 3, 2, 1, 0] hl ?_
        repeat refine fst1_ok X (dk rfl) rfl ?_
        refine br_ok X (dk rfl) rfl (show ((76 : Nat) : Int) + (-61) = ((15 : Nat) : Int) from rfl) (fun _ => ?_) (fun q => absurd trivial q)
        refine WS.sel (l' := [(4, vI (j + 1)), (3, vI (plainStep st x).2.1), (2, .ref q), (1, .ref f), (0, .ref a)]) [4, 3, 2, 1, 0] (by rw [← f2]; rfl) ?_
        exact ih (j + 1) (by omega) (by omega) h4 _ (by rw [hS]; rfl) hE4 (by rw [hS]; exact hf4) (by rw [hS]; exact hq4)
      have hol : st.2.2.length = j := hP.2.2.2
      refine WS.sel [4, 3, 2, 1, 0] hl ?_
      repeat refine fst1_ok X (dk rfl) rfl ?_
      refine alen_ok X (by decide) (dk rfl) (hE _ _ ha) ?_
      rw [la']
      refine br_ok X (dk rfl) rfl (show ((19 : Nat) : Int) + 60 = ((79 : Nat) : Int) from rfl) (fun c1 => absurd c1 (nI_ge (by omega) (by omega))) (fun c1 => ?_)
      repeat refine fst1_ok X (dk rfl) rfl ?_
      refine ald_ok X (Or.inl ⟨rfl, rfl⟩) (dk rfl) (hE _ _ ha) (inA_nI (by omega) (IA_get hx1)) ?_
      refine sti_ok X (dk rfl) hq1 (by rw [fillO_len (by omega)]; omega) (by rw [fillO_len (by omega)]; omega) ?_
      have hE2 : Ext h (hup hh q (100, (fillO st.2.2 xs.length).set j (vI x))) := hE.set hq0 _
      repeat refine fst1_ok X (dk rfl) rfl ?_
      refine ald_ok X (Or.inl ⟨rfl, rfl⟩) (dk rfl) (hE2 _ _ ha) (inA_nI (by omega) (IA_get hx1)) ?_
      repeat refine fst1_ok X (dk rfl) rfl ?_
      refine br_ok X (dk rfl) rfl (show ((36 : Nat) : Int) + 6 = ((42 : Nat) : Int) from rfl) (fun c2 => ?_) (fun c2 => ?_)
      · rw [nI_10] at c2
        have hx10 : ¬ 10 ≤ x := by have := (nI_ltI (by omega) (by omega)).mp c2; omega
        have hx8 : x < 8 := by rcases hok with q | q <;> omega
        obtain ⟨y, hy1, hy2, hy3⟩ := getD_mem (xs := st.1) (j := x) (by rw [hP.1]; omega)
        have hyle := hP.2.2.1 y hy3
        have hf2 : hup hh q (100, (fillO st.2.2 xs.length).set j (vI x)) f = some (IA st.1) := by rw [hup_ne _ _ hfq]; exact hf1
        repeat refine fst1_ok X (dk rfl) rfl ?_
        refine ald_ok X (Or.inl ⟨rfl, rfl⟩) (dk rfl) (hE2 _ _ ha) (inA_nI (by omega) (IA_get hx1)) ?_
        refine ald_ok X (Or.inl ⟨rfl, rfl⟩) (dk rfl) hf2 (inA_nI (by omega) (IA_get hy1)) ?_
        -- behind the choice: made[k] = fresh[..] - 1
        have last : ∀ (h3 : AH) (z : Nat) (l : List (Nat × Value)), lsel l [4, 3, 2, 1, 0] = [(4, vI j), (3, vI (plainStep st x).2.1), (2, .ref q), (1, .ref f), (0, .ref a)] → Ext h h3 → h3 f = some (IA (plainStep st x).1) → (plainStep st x).1[x]? = some z → 1 ≤ z → z < 2 ^ 10 → (plainStep st x).2.2 = st.2.2 ++ [z - 1] → h3 q = some (100, (fillO st.2.2 xs.length).set j (vI x)) → WR p la e (rmD 0 2 (8 + xs.length)) s m args below meth c D cA B0 5 (newE B0 h (plainL xs)) 61 l [] h3 (0 + 1 + 1) (0 + 8 + xs.length) := by
          intro h3 z l hl hE3 hf3 hz hz1 hz2 ho hq3
          refine WS.sel [4, 3, 2, 1, 0] hl ?_
          repeat refine fst1_ok X (dk rfl) rfl ?_
          refine ald_ok X (Or.inl ⟨rfl, rfl⟩) (dk rfl) (hE3 _ _ ha) (inA_nI (by omega) (IA_get hx1)) ?_
          refine ald_ok X (Or.inl ⟨rfl, rfl⟩) (dk rfl) hf3 (inA_nI (by omega) (IA_get hz)) ?_
          repeat refine fst1_ok X (dk rfl) rfl ?_
          rw [nI_1', nI_sub hz1]
          refine sti_ok X (dk rfl) hq3 (by rw [List.length_set, fillO_len (by omega)]; omega) (by rw [List.length_set, fillO_len (by omega)]; omega) ?_
          refine back _ _ rfl (hE3.set hq0 _) (by rw [hup_ne _ _ hfq]; exact hf3) ?_
          rw [hup_self, List.set_set, ho, show Value.int (nI (z - 1)) = vI (z - 1) from rfl, ← fillO_set (by omega), hol]
        by_cases hy0 : y = 0
        · subst hy0
          have hstep : plainStep st x = (st.1.set x (st.2.1 + 1), st.2.1 + 1, st.2.2 ++ [st.2.1]) := by unfold plainStep; rw [if_neg hx10, hy2, if_pos rfl]
          rw [hstep] at last
          refine br_ok X (dk rfl) rfl (show ((48 : Nat) : Int) + 13 = ((61 : Nat) : Int) from rfl) (fun c3 => absurd rfl c3) (fun c3 => ?_)
          repeat refine fst1_ok X (dk rfl) rfl ?_
          refine ald_ok X (Or.inl ⟨rfl, rfl⟩) (dk rfl) (hE2 _ _ ha) (inA_nI (by omega) (IA_get hx1)) ?_
          repeat refine fst1_ok X (dk rfl) rfl ?_
          rw [show nI st.2.1 + Int32.ofInt 1 = nI (st.2.1 + 1) by rw [nI_1', nI_add]]
          refine sti_ok X (dk rfl) hf2 (by rw [List.length_map, hP.1]; omega) (by rw [List.length_map, hP.1]; omega) ?_
          refine last _ (st.2.1 + 1) _ rfl ?_ ?_ ?_ (by omega) (by omega) rfl ?_
          · exact hE2.set hf _
          · rw [hup_self, show Value.int (nI (st.2.1 + 1)) = vI (st.2.1 + 1) from rfl]
            unfold IA
            rw [List.map_set]
          · rw [List.getElem?_set_self (by rw [hP.1]; omega)]
          · rw [hup_ne _ _ (Ne.symm hfq), hup_self]
            rfl
        · have hstep : plainStep st x = (st.1, st.2.1, st.2.2 ++ [y - 1]) := by unfold plainStep; rw [if_neg hx10, hy2, if_neg hy0]
          rw [hstep] at last
          refine br_ok X (dk rfl) rfl (show ((48 : Nat) : Int) + 13 = ((61 : Nat) : Int) from rfl) (fun c3 => ?_) (fun c3 => absurd (nI_ne0 (by omega) (by omega)) c3)
          exact last _ y _ rfl hE2 hf2 hy1 (by omega) (by omega) rfl (by rw [hup_self]; rfl)
      · rw [nI_10] at c2
        have hx10 : 10 ≤ x := by
          rcases Nat.lt_or_ge x 10 with z | z
          · exact absurd ((nI_ltI (by omega) (by omega)).mpr z) c2
          · exact z
        have hstep : plainStep st x = (st.1, st.2.1, st.2.2 ++ [x]) := by unfold plainStep; rw [if_pos hx10]
        rw [hstep] at back
        refine br_ok X (dk rfl) rfl (show ((39 : Nat) : Int) + 34 = ((73 : Nat) : Int) from rfl) (fun _ => ?_) (fun q => absurd trivial q)
        refine back _ _ rfl hE2 (by rw [hup_ne _ _ hfq]; exact hf1) ?_
        rw [hup_self, ← fillO_set (by omega), hol]
        rfl
  iterate 5 refine fst1_ok X (dk rfl) rfl ?_
  refine loop _ 0 rfl (Nat.zero_le _) _ _ rfl ((Ext.new hf _).trans (Ext.new hq _)) ?_ ?_
  · rw [hup_ne _ _ hfq, hup_self]
    rfl
  · rw [hup_self]
    simp [fillO, plainS]
end M14
