/-! used: each name becomes what is told of it -/
/-- the locals of these numbers, in this order -/
def lsel (l : List (Nat × Value)) (ks : List Nat) : List (Nat × Value) := ks.filterMap (fun i => (lget l i).map (fun v => (i, v)))
section WSS
variable {p : Program} {la : Launch} {e : Env} {R : Room} {s : State} {m : MethodId} {args : Array Value} {below : List Frame} {meth : Method} {c : Code} {Q : State → Prop} {D : va_G} {cA : Nat → ClassId} {B0 nL : Nat}
theorem WS.sel {pc k n : Nat} {l l' : List (Nat × Value)} {st : List Value} {h : AH} (ks : List Nat) (hl : lsel l ks = l') (kk : WS p la e R s m args below meth c Q D cA B0 nL pc l' st h k n) : WS p la e R s m args below meth c Q D cA B0 nL pc l st h k n := by
  intro H locs ls hH hls
  refine kk H locs ls hH ⟨hls.1, hls.2.1, fun q hq => hls.2.2 q ?_⟩
  rw [← hl] at hq
  obtain ⟨i, -, hi⟩ := List.mem_filterMap.mp hq
  simp only [Option.map_eq_some_iff] at hi
  obtain ⟨v, hv, rfl⟩ := hi
  exact lget_mem l hv
theorem WS.widen {pc k n k' n' : Nat} {l : List (Nat × Value)} {st : List Value} {h : AH} (h1 : k ≤ k') (h2 : n ≤ n') (kk : WS p la e R s m args below meth c Q D cA B0 nL pc l st h k' n') : WS p la e R s m args below meth c Q D cA B0 nL pc l st h k n :=
  fun H locs ls hH hls => W.widen h1 h2 (kk H locs ls hH hls)
end WSS
def useL (rows : List (List Nat)) (x : Nat) : List Nat := if x < 10 then rows.getD x [] else [x]
def usedL (rows : List (List Nat)) (t : List Nat) : List Nat := t.flatMap (useL rows)
theorem usedL_take_succ (rows : List (List Nat)) {t : List Nat} {j x : Nat} (h : t[j]? = some x) : usedL rows (t.take (j + 1)) = usedL rows (t.take j) ++ useL rows x := by
  unfold usedL
  rw [List.take_succ, h, List.flatMap_append]
  simp
theorem usedL_split (rows : List (List Nat)) {t : List Nat} {j x : Nat} (h : t[j]? = some x) : usedL rows t = usedL rows (t.take j) ++ (useL rows x ++ usedL rows (t.drop (j + 1))) := by
  have h1 : t = t.take j ++ (x :: t.drop (j + 1)) := by rw [← drop_cons h, List.take_append_drop]
  unfold usedL
  rw [congrArg (List.flatMap (useL rows)) h1, List.flatMap_append, List.flatMap_cons]
/-- a new row among other new rows -/
def newE (B0 : Nat) (h : AH) (ys : List Nat) (v : Option Value) (h' : AH) : Prop := ∃ q : Nat, v = some (.ref q) ∧ h q = none ∧ B0 ≤ q ∧ Ext h h' ∧ h' q = some (IA ys)
section M10
variable {la : Launch} {D : va_G} {cA : Nat → ClassId} {B0 pa : Nat}
set_option maxHeartbeats 16000000 in
theorem c_used (h : AH) {A t : Nat} {rows : List (List Nat)} {ts : List Nat} (hA : Ans h A rows) (ht : h t = some (IA ts)) (hn : ts.length < 2 ^ 9) (hrn : rows.length < 2 ^ 9) (hx : ∀ x ∈ ts, x < 2 ^ 10) (hxr : ∀ x ∈ ts, x < 10 → x < rows.length) (hun : (usedL rows ts).length < 2 ^ 9) :
    CT la D cA B0 pa yX10_used cX10_used 14 (some (.array .int)) (rmD 1 (1 + ts.length) ((usedL rows ts).length + ts.length)) [.ref A, .ref t] h (newE B0 h (usedL rows ts)) := by
  refine CT_of (by decide +kernel) (Nat.le_of_ble_eq_true rfl) ?_
  intro p e s m args below meth c X E hr hlk hnm
  have dk : ∀ {pc : Nat} {q : Instr × Nat}, lkd DX10_used pc = some q → decode cX10_used pc = .ok q := lkd_ok DX10_used_ok
  have lt' : (ts.map vI).length = ts.length := List.length_map _
  obtain ⟨as, has, hAs, hrows⟩ := hA
  -- the row that is told of a name
  have told : ∀ (x : Nat), x ∈ ts → x < 10 → ∃ a, as[x]? = some a ∧ h a = some (IA (useL rows x)) := by
    intro x hxm hx10
    have h1 := hxr x hxm hx10
    obtain ⟨a, ha⟩ : ∃ a, as[x]? = some a := ⟨as[x]'(by omega), by simp⟩
    obtain ⟨r, hr'⟩ : ∃ r, rows[x]? = some r := ⟨rows[x]'h1, by simp⟩
    refine ⟨a, ha, ?_⟩
    rw [hrows x a r ha hr']
    unfold useL
    rw [if_pos hx10, List.getD_eq_getElem?_getD, hr']
    rfl
  repeat refine fst1_ok X (dk rfl) rfl ?_
  refine alen_ok X (by decide) (dk rfl) ht ?_
  rw [lt']
  -- the second half, from the new array on
  have second : ∀ (l : List (Nat × Value)), lsel l [2, 0, 1] = [(2, vI (usedL rows ts).length), (0, .ref A), (1, .ref t)] → WR p la e (rmD 1 (1 + ts.length) ((usedL rows ts).length + ts.length)) s m args below meth c D cA B0 14 (newE B0 h (usedL rows ts)) 49 l [] h 0 0 := by
    intro l hl
    refine WS.sel [2, 0, 1] hl ?_
    repeat refine fst1_ok X (dk rfl) rfl ?_
    refine newI_ok (N := (usedL rows ts).length) X (by omega) (dk rfl) (by show 0 + 1 ≤ 1 + ts.length; omega) (by show 0 + (usedL rows ts).length ≤ (usedL rows ts).length + ts.length; omega) (fun q hq hB => ?_)
    have htq : t ≠ q := fun z => by rw [z, hq] at ht; cases ht
    have outer : ∀ (d j : Nat), d = ts.length - j → j ≤ ts.length → ∀ (hj : AH) (l : List (Nat × Value)), lsel l [7, 6, 5, 4, 3, 0, 1] = [(7, vI j), (6, vI ts.length), (5, .ref t), (4, vI (usedL rows (ts.take j)).length), (3, .ref q), (0, .ref A), (1, .ref t)] → Ext h hj → hj q = some (100, fillV (usedL rows ts) (usedL rows (ts.take j)).length) →
        WR p la e (rmD 1 (1 + ts.length) ((usedL rows ts).length + ts.length)) s m args below meth c D cA B0 14 (newE B0 h (usedL rows ts)) 67 l [] hj (1 + j) ((usedL rows ts).length + j) := by
      intro d
      induction d with
      | zero =>
        intro j hd hj hh l hl hE hq1
        have hj2 : j = ts.length := by omega
        subst hj2
        refine WS.sel [7, 6, 5, 4, 3, 0, 1] hl ?_
        repeat refine fst1_ok X (dk rfl) rfl ?_
        refine br_ok X (dk rfl) rfl (show ((71 : Nat) : Int) + 78 = ((149 : Nat) : Int) from rfl) (fun c1 => ?_) (fun c1 => absurd (Int32.le_refl _) c1)
        repeat refine fst1_ok X (dk rfl) rfl ?_
        refine reta_ok X hr hlk (Or.inr ⟨_, rfl⟩) (Or.inr ⟨_, rfl⟩) (dk rfl) ⟨q, rfl, hq, hB, hE, ?_⟩ (Nat.le_refl _) (Nat.le_refl _)
        rw [hq1, List.take_length, fill_end]
        rfl
      | succ d ih =>
        intro j hd hj hh l hl hE hq1
        obtain ⟨x, hx1⟩ : ∃ x, ts[j]? = some x := ⟨ts[j]'(by omega), by simp⟩
        have hxm := List.mem_of_getElem? hx1
        have hx2 := hx x hxm
        -- the inner loop, from the row u on
        have inner : ∀ (u : Nat) (h3 : AH) (l : List (Nat × Value)), lsel l [7, 6, 5, 4, 3, 0, 1] = [(7, vI j), (6, vI ts.length), (5, .ref t), (4, vI (usedL rows (ts.take j)).length), (3, .ref q), (0, .ref A), (1, .ref t)] → Ext h h3 → h3 q = some (100, fillV (usedL rows ts) (usedL rows (ts.take j)).length) → h3 u = some (IA (useL rows x)) → u ≠ q → ∀ kc kn : Nat, kc ≤ 1 + (j + 1) → kn ≤ (usedL rows ts).length + (j + 1) →
            WR p la e (rmD 1 (1 + ts.length) ((usedL rows ts).length + ts.length)) s m args below meth c D cA B0 14 (newE B0 h (usedL rows ts)) 100 l [.ref u] h3 kc kn := by
          intro u h3 l hl hE3 hq3 hu huq kc kn hkc hkn
          have hsp := usedL_split rows hx1
          have hus : (useL rows x).length ≤ (usedL rows ts).length := by rw [hsp]; simp; omega
          have hlu : ((useL rows x).map vI).length = (useL rows x).length := List.length_map _
          have hin : ∀ (d2 i : Nat), d2 = (useL rows x).length - i → i ≤ (useL rows x).length → ∀ (h4 : AH) (l : List (Nat × Value)), lsel l [12, 11, 10, 7, 6, 5, 4, 3, 0, 1] = [(12, vI i), (11, vI (useL rows x).length), (10, .ref u), (7, vI j), (6, vI ts.length), (5, .ref t), (4, vI ((usedL rows (ts.take j)).length + i)), (3, .ref q), (0, .ref A), (1, .ref t)] → Ext h h4 → h4 q = some (100, fillV (usedL rows ts) ((usedL rows (ts.take j)).length + i)) → h4 u = some (IA (useL rows x)) →
              WR p la e (rmD 1 (1 + ts.length) ((usedL rows ts).length + ts.length)) s m args below meth c D cA B0 14 (newE B0 h (usedL rows ts)) 114 l [] h4 kc kn := by
            intro d2
            induction d2 with
            | zero =>
              intro i hd2 hi h4 l hl hE4 hq4 hu4
              have hi2 : i = (useL rows x).length := by omega
              subst hi2
              refine WS.sel [12, 11, 10, 7, 6, 5, 4, 3, 0, 1] hl ?_
              repeat refine fst1_ok X (dk rfl) rfl ?_
              refine br_ok X (dk rfl) rfl (show ((118 : Nat) : Int) + 25 = ((143 : Nat) : Int) from rfl) (fun c1 => ?_) (fun c1 => absurd (Int32.le_refl _) c1)
              repeat refine fst1_ok X (dk rfl) rfl ?_
              refine br_ok X (dk rfl) rfl (show ((146 : Nat) : Int) + (-79) = ((67 : Nat) : Int) from rfl) (fun _ => ?_) (fun q => absurd trivial q)
              have f2 : Value.int (nI j + Int32.ofInt 1) = vI (j + 1) := congrArg Value.int (by rw [nI_1', nI_add])
              have f3 : (usedL rows (ts.take (j + 1))).length = (usedL rows (ts.take j)).length + (useL rows x).length := by rw [usedL_take_succ rows hx1, List.length_append]
              refine WS.sel (l' := [(7, vI (j + 1)), (6, vI ts.length), (5, .ref t), (4, vI (usedL rows (ts.take (j + 1))).length), (3, .ref q), (0, .ref A), (1, .ref t)]) [7, 6, 5, 4, 3, 0, 1] (by rw [← f2, f3]; rfl) ?_
              refine WS.widen hkc hkn ?_
              exact ih (j + 1) (by omega) (by omega) h4 _ rfl hE4 (by rw [f3]; exact hq4)
            | succ d2 ih2 =>
              intro i hd2 hi h4 l hl hE4 hq4 hu4
              obtain ⟨y, hy1⟩ : ∃ y, (useL rows x)[i]? = some y := ⟨(useL rows x)[i]'(by omega), by simp⟩
              have hy2 : (usedL rows ts)[(usedL rows (ts.take j)).length + i]? = some y := by
                rw [hsp, List.getElem?_append_right (by omega), Nat.add_sub_cancel_left, List.getElem?_append_left (by omega)]
                exact hy1
              have hlt : (usedL rows (ts.take j)).length + i < (usedL rows ts).length := (List.getElem?_eq_some_iff.mp hy2).1
              refine WS.sel [12, 11, 10, 7, 6, 5, 4, 3, 0, 1] hl ?_
              repeat refine fst1_ok X (dk rfl) rfl ?_
              refine br_ok X (dk rfl) rfl (show ((118 : Nat) : Int) + 25 = ((143 : Nat) : Int) from rfl) (fun c1 => absurd c1 (nI_ge (by omega) (by omega))) (fun c1 => ?_)
              repeat refine fst1_ok X (dk rfl) rfl ?_
              refine ald_ok X (Or.inl ⟨rfl, rfl⟩) (dk rfl) hu4 (inA_nI (by omega) (IA_get hy1)) ?_
              repeat refine fst1_ok X (dk rfl) rfl ?_
              refine sti_ok X (dk rfl) hq4 (by rw [fill_len _ (by omega)]; omega) (by rw [fill_len _ (by omega)]; omega) ?_
              rw [show Value.int (nI y) = vI y from rfl, fill_set hy2]
              repeat refine fst1_ok X (dk rfl) rfl ?_
              refine br_ok X (dk rfl) rfl (show ((140 : Nat) : Int) + (-26) = ((114 : Nat) : Int) from rfl) (fun _ => ?_) (fun q => absurd trivial q)
              have f2 : Value.int (nI i + Int32.ofInt 1) = vI (i + 1) := congrArg Value.int (by rw [nI_1', nI_add])
              have f3 : Value.int (nI ((usedL rows (ts.take j)).length + i) + Int32.ofInt 1) = vI ((usedL rows (ts.take j)).length + (i + 1)) := congrArg Value.int (by rw [nI_1', nI_add]; rfl)
              refine WS.sel (l' := [(12, vI (i + 1)), (11, vI (useL rows x).length), (10, .ref u), (7, vI j), (6, vI ts.length), (5, .ref t), (4, vI ((usedL rows (ts.take j)).length + (i + 1))), (3, .ref q), (0, .ref A), (1, .ref t)]) [12, 11, 10, 7, 6, 5, 4, 3, 0, 1] (by rw [← f2, ← f3]; rfl) ?_
              exact ih2 (i + 1) (by omega) (by omega) _ _ rfl (hE4.set hq _) (hup_self _ _ _) (by rw [hup_ne _ _ huq]; exact hu4)
          refine WS.sel [7, 6, 5, 4, 3, 0, 1] hl ?_
          repeat refine fst1_ok X (dk rfl) rfl ?_
          refine alen_ok X (by decide) (dk rfl) hu ?_
          rw [hlu]
          iterate 3 refine fst1_ok X (dk rfl) rfl ?_
          exact hin _ 0 rfl (Nat.zero_le _) h3 _ rfl hE3 hq3 hu
        refine WS.sel [7, 6, 5, 4, 3, 0, 1] hl ?_
        repeat refine fst1_ok X (dk rfl) rfl ?_
        refine br_ok X (dk rfl) rfl (show ((71 : Nat) : Int) + 78 = ((149 : Nat) : Int) from rfl) (fun c1 => absurd c1 (nI_ge (by omega) (by omega))) (fun c1 => ?_)
        repeat refine fst1_ok X (dk rfl) rfl ?_
        refine ald_ok X (Or.inl ⟨rfl, rfl⟩) (dk rfl) (hE _ _ ht) (inA_nI (by omega) (IA_get hx1)) ?_
        repeat refine fst1_ok X (dk rfl) rfl ?_
        refine br_ok X (dk rfl) rfl (show ((85 : Nat) : Int) + 10 = ((95 : Nat) : Int) from rfl) (fun c2 => ?_) (fun c2 => ?_)
        · rw [nI_10] at c2
          have h1 : 10 ≤ x := nI_ge' (by omega) (by omega) c2
          repeat refine fst1_ok X (dk rfl) rfl ?_
          refine callS_ok (av := [vI x]) (r := []) X E (c_row hh x) lkX10_row mlX10_20 lsX10_row ⟨Nat.le_of_ble_eq_true rfl, Nat.le_of_ble_eq_true rfl⟩ ⟨by show 1 + j + 1 ≤ 1 + ts.length; omega, by show (usedL rows ts).length + j + 1 ≤ (usedL rows ts).length + ts.length; omega⟩ (Nat.le_of_ble_eq_true rfl) (dk rfl) ?_
          rintro v h2 ⟨u, rfl, hu, hBu, rfl⟩
          have hqu : q ≠ u := fun z => by rw [z, hu] at hq1; cases hq1
          refine inner u _ _ rfl (hE.trans (Ext.new hu _)) (by rw [hup_ne _ _ hqu]; exact hq1) ?_ (Ne.symm hqu) _ _ (Nat.le_refl _) (Nat.le_refl _)
          rw [hup_self]
          unfold useL
          rw [if_neg (by omega)]
        · rw [nI_10] at c2
          have h1 : x < 10 := nI_lt' (by omega) (by omega) c2
          obtain ⟨a, ha, ha2⟩ := told x hxm h1
          repeat refine fst1_ok X (dk rfl) rfl ?_
          refine ldr_ok X (dk rfl) (hE _ _ hAs) ha (by omega) ?_
          refine br_ok X (dk rfl) rfl (show ((92 : Nat) : Int) + 8 = ((100 : Nat) : Int) from rfl) (fun _ => ?_) (fun q => absurd trivial q)
          exact inner a hh _ rfl hE hq1 (hE _ _ ha2) (fun z => by rw [z, hq] at ha2; cases ha2) _ _ (by omega) (by omega)
    iterate 3 refine fst1_ok X (dk rfl) rfl ?_
    repeat refine fst1_ok X (dk rfl) rfl ?_
    refine alen_ok (kd := 100) (vs := ts.map vI) X (by decide) (dk rfl) (by rw [hup_ne _ _ htq]; exact ht) ?_
    rw [lt']
    iterate 3 refine fst1_ok X (dk rfl) rfl ?_
    refine WS.widen (k' := 1 + 0) (n' := (usedL rows ts).length + 0) (by omega) (by omega) ?_
    refine outer _ 0 rfl (Nat.zero_le _) _ _ rfl (Ext.new hq _) ?_
    rw [hup_self, List.take_zero, show (usedL rows []).length = 0 from rfl, fill_0]
  have first : ∀ (d j : Nat), d = ts.length - j → j ≤ ts.length → ∀ (l : List (Nat × Value)), lsel l [5, 4, 3, 2, 0, 1] = [(5, vI j), (4, vI ts.length), (3, .ref t), (2, vI (usedL rows (ts.take j)).length), (0, .ref A), (1, .ref t)] →
      WR p la e (rmD 1 (1 + ts.length) ((usedL rows ts).length + ts.length)) s m args below meth c D cA B0 14 (newE B0 h (usedL rows ts)) 11 l [] h 0 0 := by
    intro d
    induction d with
    | zero =>
      intro j hd hj l hl
      have hj2 : j = ts.length := by omega
      subst hj2
      rw [List.take_length] at hl
      refine WS.sel [5, 4, 3, 2, 0, 1] hl ?_
      repeat refine fst1_ok X (dk rfl) rfl ?_
      refine br_ok X (dk rfl) rfl (show ((15 : Nat) : Int) + 34 = ((49 : Nat) : Int) from rfl) (fun c1 => ?_) (fun c1 => absurd (Int32.le_refl _) c1)
      exact second _ rfl
    | succ d ih =>
      intro j hd hj l hl
      obtain ⟨x, hx1⟩ : ∃ x, ts[j]? = some x := ⟨ts[j]'(by omega), by simp⟩
      have hxm := List.mem_of_getElem? hx1
      have hx2 := hx x hxm
      have f2 : Value.int (nI j + Int32.ofInt 1) = vI (j + 1) := congrArg Value.int (by rw [nI_1', nI_add])
      have f3 : (usedL rows (ts.take (j + 1))).length = (usedL rows (ts.take j)).length + (useL rows x).length := by rw [usedL_take_succ rows hx1, List.length_append]
      have back : ∀ (l : List (Nat × Value)), lsel l [5, 4, 3, 0, 1] = [(5, vI j), (4, vI ts.length), (3, .ref t), (0, .ref A), (1, .ref t)] → WR p la e (rmD 1 (1 + ts.length) ((usedL rows ts).length + ts.length)) s m args below meth c D cA B0 14 (newE B0 h (usedL rows ts)) 41 l [vI (useL rows x).length, vI (usedL rows (ts.take j)).length] h 0 0 := by
        intro l hl
        refine WS.sel [5, 4, 3, 0, 1] hl ?_
        repeat refine fst1_ok X (dk rfl) rfl ?_
        refine br_ok X (dk rfl) rfl (show ((46 : Nat) : Int) + (-35) = ((11 : Nat) : Int) from rfl) (fun _ => ?_) (fun q => absurd trivial q)
        refine WS.sel (l' := [(5, vI (j + 1)), (4, vI ts.length), (3, .ref t), (2, vI (usedL rows (ts.take (j + 1))).length), (0, .ref A), (1, .ref t)]) [5, 4, 3, 2, 0, 1] (by rw [← f2, f3, show vI ((usedL rows (ts.take j)).length + (useL rows x).length) = Value.int (nI (usedL rows (ts.take j)).length + nI (useL rows x).length) by rw [nI_add]; rfl]; rfl) ?_
        exact ih (j + 1) (by omega) (by omega) _ rfl
      refine WS.sel [5, 4, 3, 2, 0, 1] hl ?_
      repeat refine fst1_ok X (dk rfl) rfl ?_
      refine br_ok X (dk rfl) rfl (show ((15 : Nat) : Int) + 34 = ((49 : Nat) : Int) from rfl) (fun c1 => absurd c1 (nI_ge (by omega) (by omega))) (fun c1 => ?_)
      repeat refine fst1_ok X (dk rfl) rfl ?_
      refine ald_ok X (Or.inl ⟨rfl, rfl⟩) (dk rfl) ht (inA_nI (by omega) (IA_get hx1)) ?_
      repeat refine fst1_ok X (dk rfl) rfl ?_
      refine br_ok X (dk rfl) rfl (show ((29 : Nat) : Int) + 11 = ((40 : Nat) : Int) from rfl) (fun c2 => ?_) (fun c2 => ?_)
      · rw [nI_10] at c2
        have h1 : 10 ≤ x := nI_ge' (by omega) (by omega) c2
        have e1 : (useL rows x).length = 1 := by unfold useL; rw [if_neg (by omega)]; rfl
        rw [e1] at back
        refine fst1_ok X (dk rfl) rfl ?_
        rw [nI_1']
        exact back _ rfl
      · rw [nI_10] at c2
        have h1 : x < 10 := nI_lt' (by omega) (by omega) c2
        obtain ⟨a, ha, ha2⟩ := told x hxm h1
        repeat refine fst1_ok X (dk rfl) rfl ?_
        refine ldr_ok X (dk rfl) hAs ha (by omega) ?_
        refine alen_ok X (by decide) (dk rfl) ha2 ?_
        rw [show ((useL rows x).map vI).length = (useL rows x).length from List.length_map _]
        refine br_ok X (dk rfl) rfl (show ((37 : Nat) : Int) + 4 = ((41 : Nat) : Int) from rfl) (fun _ => ?_) (fun q => absurd trivial q)
        exact back _ rfl
  iterate 3 refine fst1_ok X (dk rfl) rfl ?_
  exact first _ 0 rfl (Nat.zero_le _) _ rfl
end M10
