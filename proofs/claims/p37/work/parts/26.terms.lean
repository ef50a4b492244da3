section U26terms
/-! rows that are terms -/
theorem endL_add : ∀ (xs : List Nat) (a b k : Nat), endL (a + b) xs = some k → ∃ k1, endL a xs = some k1 ∧ k1 ≤ k ∧ endL b (xs.drop k1) = some (k - k1)
  | xs, 0, b, k, h => ⟨0, by simp [endL], Nat.zero_le _, by simpa using h⟩
  | [], a + 1, b, k, h => by rw [show a + 1 + b = (a + b) + 1 by omega] at h; simp [endL] at h
  | x :: r, a + 1, b, k, h => by
    rw [show a + 1 + b = (a + b) + 1 by omega] at h
    simp only [endL, Option.map_eq_some_iff] at h
    obtain ⟨j, hj, rfl⟩ := h
    rw [show a + b + pF x = (a + pF x) + b by omega] at hj
    obtain ⟨k1, h1, h2, h3⟩ := endL_add r (a + pF x) b j hj
    refine ⟨k1 + 1, by simp [endL, h1], by omega, ?_⟩
    rw [List.drop_succ_cons, h3]
    congr 1
    omega
theorem endL_join : ∀ (xs : List Nat) (a b k1 k2 : Nat), endL a xs = some k1 → endL b (xs.drop k1) = some k2 → endL (a + b) xs = some (k1 + k2)
  | xs, 0, b, k1, k2, h1, h2 => by
    simp only [endL, Option.some.injEq] at h1
    subst h1
    simpa using h2
  | [], a + 1, b, k1, k2, h1, h2 => by simp [endL] at h1
  | x :: r, a + 1, b, k1, k2, h1, h2 => by
    simp only [endL, Option.map_eq_some_iff] at h1
    obtain ⟨j, hj, rfl⟩ := h1
    rw [List.drop_succ_cons] at h2
    have := endL_join r (a + pF x) b j k2 hj h2
    rw [show a + 1 + b = (a + b) + 1 by omega]
    simp only [endL]
    rw [show a + b + pF x = a + pF x + b by omega, this]
    simp only [Option.map_some]
    congr 1
    omega
theorem endL_take : ∀ (xs : List Nat) (n k : Nat), endL n xs = some k → endL n (xs.take k) = some k
  | xs, 0, k, h => by simp only [endL, Option.some.injEq] at h; subst h; simp [endL]
  | [], n + 1, k, h => by simp [endL] at h
  | x :: r, n + 1, k, h => by
    simp only [endL, Option.map_eq_some_iff] at h
    obtain ⟨j, hj, rfl⟩ := h
    simp [endL, endL_take r _ j hj]
theorem endL_app : ∀ (xs ys : List Nat) (n k : Nat), endL n xs = some k → endL n (xs ++ ys) = some k
  | xs, ys, 0, k, h => by simp only [endL, Option.some.injEq] at h; subst h; simp [endL]
  | [], ys, n + 1, k, h => by simp [endL] at h
  | x :: r, ys, n + 1, k, h => by
    simp only [endL, Option.map_eq_some_iff] at h
    obtain ⟨j, hj, rfl⟩ := h
    simp [endL, endL_app r ys _ j hj]
theorem endL_pos : ∀ {xs : List Nat} {n k : Nat}, endL (n + 1) xs = some k → 0 < k
  | [], n, k, h => by simp [endL] at h
  | x :: r, n, k, h => by
    simp only [endL, Option.map_eq_some_iff] at h
    obtain ⟨j, hj, rfl⟩ := h
    omega
/-- at each place of a row of whole terms stands a term -/
theorem endL_at : ∀ (xs : List Nat) (n j : Nat), endL n xs = some xs.length → j < xs.length → ∃ k, endL 1 (xs.drop j) = some k
  | [], n, j, h, hj => by simp at hj
  | x :: r, 0, j, h, hj => by simp [endL] at h
  | x :: r, n + 1, 0, h, hj => by
    rw [show n + 1 = 1 + n by omega] at h
    obtain ⟨k1, h1, -⟩ := endL_add (x :: r) 1 n _ h
    exact ⟨k1, by simpa using h1⟩
  | x :: r, n + 1, j + 1, h, hj => by
    simp only [endL, Option.map_eq_some_iff, List.length_cons] at h
    obtain ⟨i, hi, e⟩ := h
    have : i = r.length := by omega
    subst this
    rw [List.drop_succ_cons]
    exact endL_at r (n + pF x) j hi (by simpa using hj)
def okL (x : Nat) : Prop := x < 8 ∨ (10 ≤ x ∧ x < 18)
/-- a row that is a term -/
def TW (xs : List Nat) : Prop := endL 1 xs = some xs.length ∧ ∀ x ∈ xs, okL x
theorem okL.lt {x : Nat} (h : okL x) : x < 18 := by rcases h with h | h <;> omega
theorem TW.lt {xs : List Nat} (h : TW xs) : ∀ x ∈ xs, x < 2 ^ 10 := fun x hx => by have := (h.2 x hx).lt; omega
theorem TW.pos {xs : List Nat} (h : TW xs) : 0 < xs.length := endL_pos (n := 0) h.1
theorem TW.at {xs : List Nat} (h : TW xs) {j : Nat} (hj : j < xs.length) : ∃ k, endL 1 (xs.drop j) = some k ∧ 0 < k ∧ j + k ≤ xs.length ∧ TW ((xs.drop j).take k) := by
  obtain ⟨k, hk⟩ := endL_at xs 1 j h.1 hj
  have h1 := endL_le hk
  rw [List.length_drop] at h1
  refine ⟨k, hk, endL_pos (n := 0) hk, by omega, ?_, fun x hx => h.2 x (List.mem_of_mem_drop (List.mem_of_mem_take hx))⟩
  rw [endL_take _ _ _ hk]
  congr 1
  simp
  omega
theorem TW.name {x : Nat} (h : x < 8) : TW [x] := by
  refine ⟨?_, fun y hy => ?_⟩
  · have : pF x = 0 := by unfold pF; rw [if_pos (by omega)]
    simp [endL, this]
  · simp at hy; subst hy; exact Or.inl h
/-- whole terms, one put in for each name -/
theorem endL_used (rows : List (List Nat)) (hrows : ∀ r ∈ rows, TW r) : ∀ (ts : List Nat) (n : Nat), endL n ts = some ts.length → (∀ x ∈ ts, okL x) → 8 ≤ rows.length → endL n (usedL rows ts) = some (usedL rows ts).length
  | [], 0, _, _, _ => by simp [endL, usedL]
  | [], n + 1, h, _, _ => by simp [endL] at h
  | x :: r, 0, h, _, _ => by simp [endL] at h
  | x :: r, n + 1, h, hx, h8 => by
    simp only [endL, Option.map_eq_some_iff, List.length_cons] at h
    obtain ⟨j, hj, e⟩ := h
    have hj2 : j = r.length := by omega
    subst hj2
    have ih := endL_used rows hrows r (n + pF x) hj (fun y hy => hx y (List.mem_cons_of_mem _ hy)) h8
    have hu : usedL rows (x :: r) = useL rows x ++ usedL rows r := by simp [usedL]
    rw [hu, List.length_append]
    rcases hx x List.mem_cons_self with h1 | h1
    · have hp : pF x = 0 := by unfold pF; rw [if_pos (by omega)]
      rw [hp, Nat.add_zero] at ih
      obtain ⟨rr, hr⟩ : ∃ rr, rows[x]? = some rr := ⟨rows[x]'(by omega), by simp⟩
      have hul : useL rows x = rr := by unfold useL; rw [if_pos (by omega), List.getD_eq_getElem?_getD, hr]; rfl
      have hT := hrows rr (List.mem_of_getElem? hr)
      rw [hul, show n + 1 = 1 + n by omega]
      exact endL_join _ 1 n rr.length _ (endL_app _ _ _ _ hT.1) (by rw [List.drop_left]; exact ih)
    · have hul : useL rows x = [x] := by unfold useL; rw [if_neg (by omega)]
      rw [hul]
      simp only [List.cons_append, List.nil_append, endL, ih, Option.map_some, List.length_singleton]
      congr 1
      omega
theorem TW.used {rows : List (List Nat)} {ts : List Nat} (hrows : ∀ r ∈ rows, TW r) (h8 : 8 ≤ rows.length) (h : TW ts) : TW (usedL rows ts) := by
  refine ⟨endL_used rows hrows ts 1 h.1 h.2 h8, fun x hx => ?_⟩
  unfold usedL at hx
  obtain ⟨y, hy, hx⟩ := List.mem_flatMap.mp hx
  unfold useL at hx
  split at hx
  · rename_i h10
    rw [List.getD_eq_getElem?_getD] at hx
    cases hr : rows[y]? with
    | none => rw [hr] at hx; simp at hx
    | some rr => rw [hr] at hx; exact (hrows rr (List.mem_of_getElem? hr)).2 x hx
  · simp at hx; subst hx; exact h.2 x hy
theorem usedL_len (rows : List (List Nat)) {M : Nat} (hM : ∀ r ∈ rows, r.length ≤ M) (h1 : 1 ≤ M) : ∀ ts : List Nat, (usedL rows ts).length ≤ M * ts.length
  | [] => by simp [usedL]
  | x :: r => by
    have hu : usedL rows (x :: r) = useL rows x ++ usedL rows r := by simp [usedL]
    have ih := usedL_len rows hM h1 r
    have h2 : (useL rows x).length ≤ M := by
      unfold useL
      split
      · rw [List.getD_eq_getElem?_getD]
        cases hr : rows[x]? with
        | none => simp
        | some rr => exact hM rr (List.mem_of_getElem? hr)
      · simpa using h1
    rw [hu, List.length_append, List.length_cons, Nat.mul_add]
    omega
end U26terms
section U27m9
/-! over answers: unlikeOf, movedBy, withBehind -/
/-- an answer: eight terms of at most 16 letters -/
def AO (rows : List (List Nat)) : Prop := rows.length = 8 ∧ ∀ r ∈ rows, TW r ∧ r.length ≤ 16
/-- eight terms, as they come from putting one answer into another one -/
def AW (rows : List (List Nat)) : Prop := rows.length = 8 ∧ ∀ r ∈ rows, TW r ∧ r.length ≤ 256
theorem AO.aw {rows : List (List Nat)} (h : AO rows) : AW rows := ⟨h.1, fun r hr => ⟨(h.2 r hr).1, by have := (h.2 r hr).2; omega⟩⟩
def movedN (rows : List (List Nat)) : Nat → Nat
  | 0 => 0
  | j + 1 => if rows[j]? = some [j] then movedN rows j else movedN rows j ||| 2 ^ j
theorem Ans.row {h : AH} {A : Nat} {rows : List (List Nat)} (hA : Ans h A rows) : ∃ as : List Nat, as.length = rows.length ∧ h A = some (105, as.map Value.ref) ∧ ∀ k, k < rows.length → ∃ a r, as[k]? = some a ∧ rows[k]? = some r ∧ h a = some (IA r) := by
  obtain ⟨as, h1, h2, h3⟩ := hA
  refine ⟨as, h1, h2, fun k hk => ⟨as[k]'(by omega), rows[k], by simp, by simp, h3 k _ _ (by simp) (by simp)⟩⟩
section M11
variable {la : Launch} {D : va_G} {cA : Nat → ClassId} {B0 pa : Nat}
set_option maxHeartbeats 8000000 in
theorem c_unlikeOf (h : AH) {A B : Nat} {r1 r2 : List (List Nat)} (hA : Ans h A r1) (hB : Ans h B r2) (o1 : AW r1) (o2 : AW r2) : CT la D cA B0 pa yX10_unlikeOf cX10_unlikeOf 3 (some .int) (rmD 3 0 0) [.ref A, .ref B] h (fun v h' => (∃ o : Option Nat, v = some (vP o) ∧ (∀ i, i < o.getD 8 → r1[i]? = r2[i]?) ∧ ∀ k, o = some k → k < 8 ∧ r1[k]? ≠ r2[k]?) ∧ h' = h) := by
  refine CT_of (by decide +kernel) (Nat.le_of_ble_eq_true rfl) ?_
  intro p e s m args below meth c X E hr hlk hnm
  have dk : ∀ {pc : Nat} {q : Instr × Nat}, lkd DX10_unlikeOf pc = some q → decode cX10_unlikeOf pc = .ok q := lkd_ok DX10_unlikeOf_ok
  obtain ⟨as, has, hAs, hra⟩ := hA.row
  obtain ⟨bs, hbs, hBs, hrb⟩ := hB.row
  have l1 := o1.1
  have l2 := o2.1
  have loop : ∀ (d j : Nat), d = 8 - j → j ≤ 8 → (∀ i, i < j → r1[i]? = r2[i]?) → WR p la e (rmD 3 0 0) s m args below meth c D cA B0 3 (fun v h' => (∃ o : Option Nat, v = some (vP o) ∧ (∀ i, i < o.getD 8 → r1[i]? = r2[i]?) ∧ ∀ k, o = some k → k < 8 ∧ r1[k]? ≠ r2[k]?) ∧ h' = h) 2 [(2, vI j), (0, .ref A), (1, .ref B)] [] h 0 0 := by
    intro d
    induction d with
    | zero =>
      intro j hd hj hi
      have hj2 : j = 8 := by omega
      subst hj2
      repeat refine fst1_ok X (dk rfl) rfl ?_
      refine br_ok X (dk rfl) rfl (show ((5 : Nat) : Int) + 23 = ((28 : Nat) : Int) from rfl) (fun c1 => ?_) (fun c1 => absurd (by decide) c1)
      repeat refine fst1_ok X (dk rfl) rfl ?_
      exact reti_ok X hr hlk rfl (dk rfl) ⟨⟨none, rfl, hi, fun k e => by cases e⟩, rfl⟩ (Nat.le_refl _) (Nat.le_refl _)
    | succ d ih =>
      intro j hd hj hi
      obtain ⟨a, x, ha1, ha2, ha3⟩ := hra j (by omega)
      obtain ⟨b, y, hb1, hb2, hb3⟩ := hrb j (by omega)
      have hx := o1.2 x (List.mem_of_getElem? ha2)
      have hy := o2.2 y (List.mem_of_getElem? hb2)
      repeat refine fst1_ok X (dk rfl) rfl ?_
      refine br_ok X (dk rfl) rfl (show ((5 : Nat) : Int) + 23 = ((28 : Nat) : Int) from rfl) (fun c1 => absurd c1 (nI_ge (b := 8) (by omega) (by omega))) (fun c1 => ?_)
      repeat refine fst1_ok X (dk rfl) rfl ?_
      refine ldr_ok X (dk rfl) hAs ha1 (by omega) ?_
      repeat refine fst1_ok X (dk rfl) rfl ?_
      refine ldr_ok X (dk rfl) hBs hb1 (by omega) ?_
      refine callS_ok (av := [.ref a, .ref b]) (r := []) X E (c_same h ha3 hb3 (by omega) (by omega) hx.1.lt hy.1.lt) lkX10_same mlX10_54 lsX10_same ⟨Nat.le_of_ble_eq_true rfl, Nat.le_of_ble_eq_true rfl⟩ ⟨Nat.le_of_ble_eq_true rfl, Nat.le_of_ble_eq_true rfl⟩ (Nat.le_of_ble_eq_true rfl) (dk rfl) ?_
      rintro v h' ⟨rfl, rfl⟩
      by_cases hxy : x = y
      · rw [if_pos hxy]
        refine br_ok X (dk rfl) rfl (show ((17 : Nat) : Int) + 5 = ((22 : Nat) : Int) from rfl) (fun c2 => ?_) (fun c2 => absurd (by decide) c2)
        repeat refine fst1_ok X (dk rfl) rfl ?_
        refine br_ok X (dk rfl) rfl (show ((25 : Nat) : Int) + (-23) = ((2 : Nat) : Int) from rfl) (fun _ => ?_) (fun q => absurd trivial q)
        have f2 : Value.int (nI j + Int32.ofInt 1) = vI (j + 1) := congrArg Value.int (by rw [nI_1', nI_add])
        refine WS.sel (l' := [(2, vI (j + 1)), (0, .ref A), (1, .ref B)]) [2, 0, 1] (by rw [← f2]; rfl) ?_
        refine ih (j + 1) (by omega) (by omega) (fun i hi2 => ?_)
        rcases Nat.lt_or_ge i j with q | q
        · exact hi i q
        · rw [show i = j by omega, ha2, hb2, hxy]
      · rw [if_neg hxy]
        refine br_ok X (dk rfl) rfl (show ((17 : Nat) : Int) + 5 = ((22 : Nat) : Int) from rfl) (fun c2 => absurd (by decide) c2) (fun c2 => ?_)
        repeat refine fst1_ok X (dk rfl) rfl ?_
        refine reti_ok X hr hlk rfl (dk rfl) ⟨⟨some j, rfl, hi, fun k e => ?_⟩, rfl⟩ (Nat.le_refl _) (Nat.le_refl _)
        cases e
        refine ⟨by omega, ?_⟩
        rw [ha2, hb2]
        exact fun z => hxy (Option.some.inj z)
  iterate 2 refine fst1_ok X (dk rfl) rfl ?_
  exact loop 8 0 rfl (by omega) (fun i hi => by omega)
set_option maxHeartbeats 8000000 in
theorem c_movedBy (h : AH) {A : Nat} {rows : List (List Nat)} (hA : Ans h A rows) (ho : AO rows) : CT la D cA B0 pa yX10_movedBy cX10_movedBy 3 (some .int) (rmD 3 8 8) [.ref A] h (fun v h' => v = some (vI (movedN rows 8)) ∧ Ext h h') := by
  refine CT_of (by decide +kernel) (Nat.le_of_ble_eq_true rfl) ?_
  intro p e s m args below meth c X E hr hlk hnm
  have dk : ∀ {pc : Nat} {q : Instr × Nat}, lkd DX10_movedBy pc = some q → decode cX10_movedBy pc = .ok q := lkd_ok DX10_movedBy_ok
  obtain ⟨as, has, hAs, hra⟩ := hA.row
  have l1 := ho.1
  have loop : ∀ (d j : Nat), d = 8 - j → j ≤ 8 → ∀ (hh : AH) (l : List (Nat × Value)), lsel l [2, 1, 0] = [(2, vI j), (1, vI (movedN rows j)), (0, .ref A)] → Ext h hh → WR p la e (rmD 3 8 8) s m args below meth c D cA B0 3 (fun v h' => v = some (vI (movedN rows 8)) ∧ Ext h h') 4 l [] hh (0 + j) (0 + j) := by
    intro d
    induction d with
    | zero =>
      intro j hd hj hh l hl hE
      have hj2 : j = 8 := by omega
      subst hj2
      refine WS.sel [2, 1, 0] hl ?_
      repeat refine fst1_ok X (dk rfl) rfl ?_
      refine br_ok X (dk rfl) rfl (show ((7 : Nat) : Int) + 32 = ((39 : Nat) : Int) from rfl) (fun c1 => ?_) (fun c1 => absurd (by decide) c1)
      repeat refine fst1_ok X (dk rfl) rfl ?_
      exact reti_ok X hr hlk rfl (dk rfl) ⟨rfl, hE⟩ (Nat.le_refl _) (Nat.le_refl _)
    | succ d ih =>
      intro j hd hj hh l hl hE
      obtain ⟨a, x, ha1, ha2, ha3⟩ := hra j (by omega)
      have hx := ho.2 x (List.mem_of_getElem? ha2)
      refine WS.sel [2, 1, 0] hl ?_
      repeat refine fst1_ok X (dk rfl) rfl ?_
      refine br_ok X (dk rfl) rfl (show ((7 : Nat) : Int) + 32 = ((39 : Nat) : Int) from rfl) (fun c1 => absurd c1 (nI_ge (b := 8) (by omega) (by omega))) (fun c1 => ?_)
      repeat refine fst1_ok X (dk rfl) rfl ?_
      refine ldr_ok X (dk rfl) (hE _ _ hAs) ha1 (by omega) ?_
      repeat refine fst1_ok X (dk rfl) rfl ?_
      refine callS_ok (av := [vI j]) (r := [.ref a, vI (movedN rows j)]) X E (c_row hh j) lkX10_row mlX10_20 lsX10_row ⟨Nat.le_of_ble_eq_true rfl, Nat.le_of_ble_eq_true rfl⟩ ⟨by show 0 + j + 1 ≤ 8; omega, by show 0 + j + 1 ≤ 8; omega⟩ (Nat.le_of_ble_eq_true rfl) (dk rfl) ?_
      rintro v h2 ⟨q, rfl, hq, hBq, rfl⟩
      have hE2 := Ext.new hq (IA [j])
      refine callS_ok (av := [.ref a, .ref q]) (r := [vI (movedN rows j)]) X E (c_same _ (hE2 _ _ (hE _ _ ha3)) (hup_self _ _ _) (by omega) (by simp) hx.1.lt (fun y hy => by simp at hy; omega)) lkX10_same mlX10_54 lsX10_same ⟨Nat.le_of_ble_eq_true rfl, Nat.le_of_ble_eq_true rfl⟩ ⟨by show 0 + j + 1 + 0 ≤ 8; omega, by show 0 + j + 1 + 0 ≤ 8; omega⟩ (Nat.le_of_ble_eq_true rfl) (dk rfl) ?_
      rintro v h' ⟨rfl, rfl⟩
      have f2 : Value.int (nI j + Int32.ofInt 1) = vI (j + 1) := congrArg Value.int (by rw [nI_1', nI_add])
      have back : ∀ (y : Nat), movedN rows (j + 1) = movedN rows j ||| y → WR p la e (rmD 3 8 8) s m args below meth c D cA B0 3 (fun v h' => v = some (vI (movedN rows 8)) ∧ Ext h h') 31 [(2, vI j), (1, vI (movedN rows j)), (0, .ref A)] [vI y, vI (movedN rows j)] (hup hh q (IA [j])) (0 + j + 1 + 0) (0 + j + 1 + 0) := by
        intro y hy
        repeat refine fst1_ok X (dk rfl) rfl ?_
        refine br_ok X (dk rfl) rfl (show ((36 : Nat) : Int) + (-32) = ((4 : Nat) : Int) from rfl) (fun _ => ?_) (fun q => absurd trivial q)
        refine WS.sel (l' := [(2, vI (j + 1)), (1, vI (movedN rows (j + 1))), (0, .ref A)]) [2, 1, 0] (by rw [← f2, hy, show vI (movedN rows j ||| y) = Value.int (nI (movedN rows j) ||| nI y) by rw [nI_or]; rfl]; rfl) ?_
        refine WS.widen (k' := 0 + (j + 1)) (n' := 0 + (j + 1)) (by omega) (by omega) ?_
        exact ih (j + 1) (by omega) (by omega) _ _ rfl (hE.trans hE2)
      by_cases hxy : x = [j]
      · rw [if_pos hxy]
        refine br_ok X (dk rfl) rfl (show ((21 : Nat) : Int) + 7 = ((28 : Nat) : Int) from rfl) (fun c2 => absurd c2 (by decide)) (fun c2 => ?_)
        repeat refine fst1_ok X (dk rfl) rfl ?_
        refine br_ok X (dk rfl) rfl (show ((25 : Nat) : Int) + 6 = ((31 : Nat) : Int) from rfl) (fun _ => ?_) (fun q => absurd trivial q)
        rw [nI_0']
        exact back 0 (by simp [movedN, ha2, hxy])
      · rw [if_neg hxy]
        refine br_ok X (dk rfl) rfl (show ((21 : Nat) : Int) + 7 = ((28 : Nat) : Int) from rfl) (fun c2 => ?_) (fun c2 => absurd rfl c2)
        iterate 3 refine fst1_ok X (dk rfl) rfl ?_
        rw [shl1 j (by omega)]
        exact back (2 ^ j) (by simp [movedN, ha2, hxy])
  iterate 4 refine fst1_ok X (dk rfl) rfl ?_
  exact loop 8 0 rfl (by omega) h _ rfl (Ext.rf h)
set_option maxHeartbeats 8000000 in
theorem c_withBehind (h : AH) {A B : Nat} {r1 r2 : List (List Nat)} (hA : Ans h A r1) (hB : Ans h B r2) (o1 : AO r1) (o2 : AO r2) : CT la D cA B0 pa yX10_withBehind cX10_withBehind 4 (some (.array (.array .int))) (rmD 2 137 2184) [.ref A, .ref B] h (newR B0 h (r1.map (usedL r2))) := by
  refine CT_of (by decide +kernel) (Nat.le_of_ble_eq_true rfl) ?_
  intro p e s m args below meth c X E hr hlk hnm
  have dk : ∀ {pc : Nat} {q : Instr × Nat}, lkd DX10_withBehind pc = some q → decode cX10_withBehind pc = .ok q := lkd_ok DX10_withBehind_ok
  obtain ⟨as, has, hAs, hra⟩ := hA.row
  have l1 := o1.1
  have l2 := o2.1
  repeat refine fst1_ok X (dk rfl) rfl ?_
  refine newR_ok (N := 8) (kd := 105) X E (by decide) cl10_9 (by decide) (dk rfl) (by decide) (by decide) (fun M hM hBM => ?_)
  have loop : ∀ (d j : Nat), d = 8 - j → j ≤ 8 → ∀ (hj : AH) (ms : List Nat), ms.length = j → Ext h hj → hj M = some (105, filR ms 8) → (∀ (k a : Nat) (r : List Nat), ms[k]? = some a → r1[k]? = some r → hj a = some (IA (usedL r2 r))) → WR p la e (rmD 2 137 2184) s m args below meth c D cA B0 4 (newR B0 h (r1.map (usedL r2))) 8 [(3, vI j), (2, .ref M), (0, .ref A), (1, .ref B)] [] hj (1 + 17 * j) (8 + 272 * j) := by
    intro d
    induction d with
    | zero =>
      intro j hd hj hh ms hms hE hMs hrows
      have hj2 : j = 8 := by omega
      subst hj2
      repeat refine fst1_ok X (dk rfl) rfl ?_
      refine br_ok X (dk rfl) rfl (show ((11 : Nat) : Int) + 19 = ((30 : Nat) : Int) from rfl) (fun c1 => ?_) (fun c1 => absurd (by decide) c1)
      repeat refine fst1_ok X (dk rfl) rfl ?_
      refine reta_ok X hr hlk (Or.inr ⟨_, rfl⟩) (Or.inr ⟨_, rfl⟩) (dk rfl) ⟨M, rfl, hM, hBM, hE, ms, by simp [hms, l1], ?_, ?_⟩ (Nat.le_refl _) (Nat.le_refl _)
      · rw [hMs, ← hms, filR_end]
      · intro k a r hk hr'
        rw [List.getElem?_map] at hr'
        cases hq : r1[k]? with
        | none => rw [hq] at hr'; cases hr'
        | some r0 =>
          rw [hq] at hr'
          cases hr'
          exact hrows k a r0 hk hq
    | succ d ih =>
      intro j hd hj hh ms hms hE hMs hrows
      obtain ⟨a, x, ha1, ha2, ha3⟩ := hra j (by omega)
      have hx := o1.2 x (List.mem_of_getElem? ha2)
      have hul := usedL_len r2 (M := 16) (fun r hr => (o2.2 r hr).2) (by decide) x
      repeat refine fst1_ok X (dk rfl) rfl ?_
      refine br_ok X (dk rfl) rfl (show ((11 : Nat) : Int) + 19 = ((30 : Nat) : Int) from rfl) (fun c1 => absurd c1 (nI_ge (b := 8) (by omega) (by omega))) (fun c1 => ?_)
      repeat refine fst1_ok X (dk rfl) rfl ?_
      refine ldr_ok X (dk rfl) (hE _ _ hAs) ha1 (by omega) ?_
      refine callS_ok (av := [.ref B, .ref a]) (r := [vI j, .ref M]) X E (c_used hh (hB.ext hE) (hE _ _ ha3) (by omega) (by omega) hx.1.lt (fun y hy hy10 => by rcases hx.1.2 y hy with q | q <;> omega) (by omega)) lkX10_used mlX10_120 lsX10_used ⟨Nat.le_of_ble_eq_true rfl, Nat.le_of_ble_eq_true rfl⟩ ⟨by show 1 + 17 * j + (1 + x.length) ≤ 137; omega, by show 8 + 272 * j + ((usedL r2 x).length + x.length) ≤ 2184; omega⟩ (Nat.le_of_ble_eq_true rfl) (dk rfl) ?_
      rintro v h2 ⟨q, rfl, hq, hBq, hE2, hq2⟩
      refine str_ok (j := j) X (dk rfl) (hE2 _ _ hMs) hq2 (by rw [filR_len (by omega)]; omega) (by rw [filR_len (by omega)]; omega) ?_
      have e1 : (filR ms 8).set j (.ref q) = filR (ms ++ [q]) 8 := by rw [← hms]; exact filR_set (by omega)
      rw [e1]
      repeat refine fst1_ok X (dk rfl) rfl ?_
      refine br_ok X (dk rfl) rfl (show ((27 : Nat) : Int) + (-19) = ((8 : Nat) : Int) from rfl) (fun _ => ?_) (fun q => absurd trivial q)
      have f2 : Value.int (nI j + Int32.ofInt 1) = vI (j + 1) := congrArg Value.int (by rw [nI_1', nI_add])
      refine WS.sel (l' := [(3, vI (j + 1)), (2, .ref M), (0, .ref A), (1, .ref B)]) [3, 2, 0, 1] (by rw [← f2]; rfl) ?_
      refine WS.widen (k' := 1 + 17 * (j + 1)) (n' := 8 + 272 * (j + 1)) (by show 1 + 17 * j + (1 + x.length) ≤ _; omega) (by show 8 + 272 * j + ((usedL r2 x).length + x.length) ≤ _; omega) ?_
      have hne : ∀ {a : Nat} {xs : List Nat}, h2 a = some (IA xs) → a ≠ M := by
        intro a xs e z
        rw [z, hE2 _ _ hMs] at e
        simp [IA] at e
      refine ih (j + 1) (by omega) (by omega) _ (ms ++ [q]) (by simp [hms]) ((hE.trans hE2).set hM _) (hup_self _ _ _) ?_
      intro k a r hk hr'
      rcases Nat.lt_or_ge k ms.length with hk2 | hk2
      · rw [List.getElem?_append_left hk2] at hk
        have e3 := hE2 _ _ (hrows k a r hk hr')
        rw [hup_ne _ _ (hne e3), e3]
      · rw [List.getElem?_append_right hk2] at hk
        have hz : k - ms.length < 1 := (List.getElem?_eq_some_iff.mp hk).1
        have hk3 : k = j := by omega
        rw [show k - ms.length = 0 by omega] at hk
        cases hk
        subst hk3
        rw [ha2] at hr'
        cases hr'
        rw [hup_ne _ _ (hne hq2), hq2]
  iterate 3 refine fst1_ok X (dk rfl) rfl ?_
  exact loop 8 0 rfl (by omega) _ [] rfl (Ext.new hM _) (by rw [hup_self, filR_0]) (fun k a r hk => by simp at hk)
end M11
end U27m9
section U28m10
/-! often, depthOf, isMet, sharedOf: what they answer is only said to be a number -/
def intP (h : AH) (v : Option Value) (h' : AH) : Prop := (∃ x : Int32, v = some (.int x)) ∧ h' = h
def booP (h : AH) (v : Option Value) (h' : AH) : Prop := (v = some (.int 0) ∨ v = some (.int 1)) ∧ h' = h
section M12
variable {la : Launch} {D : va_G} {cA : Nat → ClassId} {B0 pa : Nat}
set_option maxHeartbeats 8000000 in
theorem c_often (h : AH) {a : Nat} {xs : List Nat} (y : Int32) (ha : h a = some (IA xs)) (hn : xs.length < 2 ^ 9) : CT la D cA B0 pa yX10_often cX10_often 7 (some .int) (rmD 0 0 0) [.ref a, .int y] h (intP h) := by
  refine CT_of (by decide +kernel) (Nat.le_of_ble_eq_true rfl) ?_
  intro p e s m args below meth c X E hr hlk hnm
  have dk : ∀ {pc : Nat} {q : Instr × Nat}, lkd DX10_often pc = some q → decode cX10_often pc = .ok q := lkd_ok DX10_often_ok
  have la' : (xs.map vI).length = xs.length := List.length_map _
  repeat refine fst1_ok X (dk rfl) rfl ?_
  refine alen_ok X (by decide) (dk rfl) ha ?_
  rw [la']
  have loop : ∀ (d j : Nat), d = xs.length - j → j ≤ xs.length → ∀ (z : Int32) (l : List (Nat × Value)), lsel l [5, 4, 3, 2, 0, 1] = [(5, vI j), (4, vI xs.length), (3, .ref a), (2, .int z), (0, .ref a), (1, .int y)] → WR p la e (rmD 0 0 0) s m args below meth c D cA B0 7 (intP h) 11 l [] h 0 0 := by
    intro d
    induction d with
    | zero =>
      intro j hd hj z l hl
      have hj2 : j = xs.length := by omega
      subst hj2
      refine WS.sel [5, 4, 3, 2, 0, 1] hl ?_
      repeat refine fst1_ok X (dk rfl) rfl ?_
      refine br_ok X (dk rfl) rfl (show ((15 : Nat) : Int) + 29 = ((44 : Nat) : Int) from rfl) (fun c1 => ?_) (fun c1 => absurd (Int32.le_refl _) c1)
      repeat refine fst1_ok X (dk rfl) rfl ?_
      exact reti_ok X hr hlk rfl (dk rfl) ⟨⟨_, rfl⟩, rfl⟩ (Nat.le_refl _) (Nat.le_refl _)
    | succ d ih =>
      intro j hd hj z l hl
      obtain ⟨x, hx1⟩ : ∃ x, xs[j]? = some x := ⟨xs[j]'(by omega), by simp⟩
      refine WS.sel [5, 4, 3, 2, 0, 1] hl ?_
      repeat refine fst1_ok X (dk rfl) rfl ?_
      refine br_ok X (dk rfl) rfl (show ((15 : Nat) : Int) + 29 = ((44 : Nat) : Int) from rfl) (fun c1 => absurd c1 (nI_ge (by omega) (by omega))) (fun c1 => ?_)
      repeat refine fst1_ok X (dk rfl) rfl ?_
      refine ald_ok X (Or.inl ⟨rfl, rfl⟩) (dk rfl) ha (inA_nI (by omega) (IA_get hx1)) ?_
      have f2 : Value.int (nI j + Int32.ofInt 1) = vI (j + 1) := congrArg Value.int (by rw [nI_1', nI_add])
      have back : ∀ (w : Int32) (l : List (Nat × Value)), lsel l [5, 4, 3, 0, 1] = [(5, vI j), (4, vI xs.length), (3, .ref a), (0, .ref a), (1, .int y)] → WR p la e (rmD 0 0 0) s m args below meth c D cA B0 7 (intP h) 36 l [.int w, .int z] h 0 0 := by
        intro w l hl
        refine WS.sel [5, 4, 3, 0, 1] hl ?_
        repeat refine fst1_ok X (dk rfl) rfl ?_
        refine br_ok X (dk rfl) rfl (show ((41 : Nat) : Int) + (-30) = ((11 : Nat) : Int) from rfl) (fun _ => ?_) (fun q => absurd trivial q)
        refine WS.sel (l' := [(5, vI (j + 1)), (4, vI xs.length), (3, .ref a), (2, .int (z + w)), (0, .ref a), (1, .int y)]) [5, 4, 3, 2, 0, 1] (by rw [← f2]; rfl) ?_
        exact ih (j + 1) (by omega) (by omega) _ _ rfl
      repeat refine fst1_ok X (dk rfl) rfl ?_
      refine br_ok X (dk rfl) rfl (show ((28 : Nat) : Int) + 7 = ((35 : Nat) : Int) from rfl) (fun c2 => ?_) (fun c2 => ?_)
      · refine fst1_ok X (dk rfl) rfl ?_
        exact back _ _ rfl
      · refine fst1_ok X (dk rfl) rfl ?_
        refine br_ok X (dk rfl) rfl (show ((32 : Nat) : Int) + 4 = ((36 : Nat) : Int) from rfl) (fun _ => ?_) (fun q => absurd trivial q)
        exact back _ _ rfl
  iterate 3 refine fst1_ok X (dk rfl) rfl ?_
  exact loop _ 0 rfl (Nat.zero_le _) _ _ rfl
set_option maxHeartbeats 8000000 in
theorem c_depthOf (h : AH) {a : Nat} {xs : List Nat} (ha : h a = some (IA xs)) (hn : xs.length < 2 ^ 9) (hx : ∀ x ∈ xs, x < 2 ^ 10) : ∀ (f at' k : Nat), endL 1 (xs.drop at') = some k → k ≤ f → CT la D cA B0 pa yX10_depthOf cX10_depthOf 5 (some .int) (rmD (2 + f) 0 0) [.ref a, vI at'] h (fun v h' => (∃ d, v = some (vI d) ∧ d ≤ k) ∧ h' = h) := by
  intro f
  induction f with
  | zero => intro at' k hk hkf; have := endL_pos (n := 0) hk; omega
  | succ f ihf =>
    intro at' k hk hkf
    refine CT_of (by decide +kernel) (Nat.le_of_ble_eq_true rfl) ?_
    intro p e s m args below meth c X E hr hlk hnm
    have dk : ∀ {pc : Nat} {q : Instr × Nat}, lkd DX10_depthOf pc = some q → decode cX10_depthOf pc = .ok q := lkd_ok DX10_depthOf_ok
    have hat : at' < xs.length := by
      rcases Nat.lt_or_ge at' xs.length with q | q
      · exact q
      · rw [List.drop_eq_nil_of_le q] at hk; simp [endL] at hk
    obtain ⟨x, hx1⟩ : ∃ x, xs[at']? = some x := ⟨xs[at']'hat, by simp⟩
    have hx2 := hx x (List.mem_of_getElem? hx1)
    have hpF : pF x < 2 ^ 10 := by unfold pF; split <;> omega
    have hk' := hk
    rw [drop_cons hx1] at hk'
    simp only [endL, Option.map_eq_some_iff, Nat.zero_add] at hk'
    obtain ⟨k0, hk0, rfl⟩ := hk'
    have hle := endL_le hk
    rw [List.length_drop] at hle
    repeat refine fst1_ok X (dk rfl) rfl ?_
    refine ald_ok X (Or.inl ⟨rfl, rfl⟩) (dk rfl) ha (inA_nI (by omega) (IA_get hx1)) ?_
    refine callS_ok (av := [vI x]) (r := []) X E (c_parts h (by omega)) lkX10_parts mlX10_32 lsX10_parts ⟨by show 0 + 1 ≤ 2 + (f + 1); omega, by show 8 + (1 + 11) + 40 * 0 ≤ 40 * (2 + (f + 1)); omega⟩ ⟨Nat.le_of_ble_eq_true rfl, Nat.le_of_ble_eq_true rfl⟩ (Nat.le_of_ble_eq_true rfl) (dk rfl) ?_
    rintro v h' ⟨rfl, rfl⟩
    have loop : ∀ (nd pl j most : Nat), endL nd (xs.drop pl) = some j → pl + j = at' + (k0 + 1) → at' < pl → most ≤ k0 → nd < 2 ^ 10 → ∀ (l : List (Nat × Value)), lsel l [4, 3, 2, 0, 1] = [(4, vI nd), (3, vI pl), (2, vI most), (0, .ref a), (1, vI at')] → WR p la e (rmD (2 + (f + 1)) 0 0) s m args below meth c D cA B0 5 (fun v h'_1 => (∃ d, v = some (vI d) ∧ d ≤ k0 + 1) ∧ h'_1 = h') 14 l [] h' 0 0 := by
      intro nd
      induction nd with
      | zero =>
        intro pl j most hj hpj hpl hm hnd l hl
        refine WS.sel [4, 3, 2, 0, 1] hl ?_
        repeat refine fst1_ok X (dk rfl) rfl ?_
        refine br_ok X (dk rfl) rfl (show ((16 : Nat) : Int) + 25 = ((41 : Nat) : Int) from rfl) (fun c1 => ?_) (fun c1 => absurd (show nI 0 ≤ 0 by decide) c1)
        repeat refine fst1_ok X (dk rfl) rfl ?_
        refine reti_ok X hr hlk rfl (dk rfl) ⟨⟨most + 1, ?_, by omega⟩, rfl⟩ (Nat.le_refl _) (Nat.le_refl _)
        rw [nI_1', nI_add]
        rfl
      | succ nd ih =>
        intro pl j most hj hpj hpl hm hnd l hl
        rw [show nd + 1 = 1 + nd by omega] at hj
        obtain ⟨k1, hk1, hk1j, hk2⟩ := endL_add _ 1 nd j hj
        rw [List.drop_drop] at hk2
        have hk1p := endL_pos (n := 0) hk1
        have hple := endL_le hk1
        rw [List.length_drop] at hple
        have hplt : pl < xs.length := by
          rcases Nat.lt_or_ge pl xs.length with q | q
          · exact q
          · omega
        refine WS.sel [4, 3, 2, 0, 1] hl ?_
        repeat refine fst1_ok X (dk rfl) rfl ?_
        refine br_ok X (dk rfl) rfl (show ((16 : Nat) : Int) + 25 = ((41 : Nat) : Int) from rfl) (fun c1 => absurd c1 (nI_nle (Nat.succ_pos nd) (by omega))) (fun c1 => ?_)
        repeat refine fst1_ok X (dk rfl) rfl ?_
        refine callS_ok (av := [.ref a, vI pl]) (r := [vI most]) X E (ihf pl k1 hk1 (by omega)) lkX10_depthOf mlX10_63 lsX10_depthOf ⟨by show 2 + f + 1 ≤ 2 + (f + 1); omega, by show 8 + (5 + 11) + 40 * (2 + f) ≤ 40 * (2 + (f + 1)); omega⟩ ⟨Nat.le_of_ble_eq_true rfl, Nat.le_of_ble_eq_true rfl⟩ (Nat.le_of_ble_eq_true rfl) (dk rfl) ?_
        rintro v h2 ⟨⟨d1, rfl, hd1⟩, rfl⟩
        refine mmax_ok X (by omega) (by omega) mlX10_48 (dk rfl) (by show 1 ≤ 2 + (f + 1); omega) (by show 0 + 13 ≤ 40 * (2 + (f + 1)); omega) (Nat.le_of_ble_eq_true rfl) (Nat.le_of_ble_eq_true rfl) ?_
        repeat refine fst1_ok X (dk rfl) rfl ?_
        refine callS_ok (av := [.ref a, vI pl]) (r := []) X E (c_end h2 ha hx (by omega) hk1) lkX10_end mlX10_36 lsX10_end ⟨by show 1 + 1 ≤ 2 + (f + 1); omega, by show 8 + (4 + 11) + 40 * 1 ≤ 40 * (2 + (f + 1)); omega⟩ ⟨Nat.le_of_ble_eq_true rfl, Nat.le_of_ble_eq_true rfl⟩ (Nat.le_of_ble_eq_true rfl) (dk rfl) ?_
        rintro v h3 ⟨rfl, rfl⟩
        repeat refine fst1_ok X (dk rfl) rfl ?_
        refine br_ok X (dk rfl) rfl (show ((38 : Nat) : Int) + (-24) = ((14 : Nat) : Int) from rfl) (fun _ => ?_) (fun q => absurd trivial q)
        have f2 : Value.int (nI (nd + 1) + Int32.ofInt (-1)) = vI nd := congrArg Value.int (by rw [show Int32.ofInt (-1) = -1 by decide, ← Int32.sub_eq_add_neg]; exact nI_pred nd)
        refine WS.sel (l' := [(4, vI nd), (3, vI (pl + k1)), (2, vI (max most d1)), (0, .ref a), (1, vI at')]) [4, 3, 2, 0, 1] (by rw [← f2]; rfl) ?_
        exact ih (pl + k1) (j - k1) (max most d1) hk2 (by omega) (by omega) (by omega) (by omega) _ rfl
    iterate 1 refine fst1_ok X (dk rfl) rfl ?_
    refine loop (pF x) (at' + 1) k0 0 hk0 (by omega) (by omega) (Nat.zero_le _) hpF _ ?_
    rw [show vI (at' + 1) = Value.int (nI at' + Int32.ofInt 1) by rw [nI_1', nI_add]; rfl]
    rfl
end M12
end U28m10
section U29m11
/-! isMet, sharedOf -/
/-- rows of terms, any number of them -/
def RO (rows : List (List Nat)) : Prop := rows.length < 2 ^ 8 ∧ ∀ r ∈ rows, TW r ∧ r.length ≤ 16
section M13
variable {la : Launch} {D : va_G} {cA : Nat → ClassId} {B0 pa : Nat}
set_option maxHeartbeats 8000000 in
theorem c_isMet (h : AH) {A t pl : Nat} {rows : List (List Nat)} {rt : List Nat} (hA : Ans h A rows) (ho : RO rows) (ht : rows[t]? = some rt) (hp : pl < rt.length) : CT la D cA B0 pa yX10_isMet cX10_isMet 5 (some .boolean) (rmD 3 0 0) [.ref A, vI t, vI pl] h (booP h) := by
  refine CT_of (by decide +kernel) (Nat.le_of_ble_eq_true rfl) ?_
  intro p e s m args below meth c X E hr hlk hnm
  have dk : ∀ {pc : Nat} {q : Instr × Nat}, lkd DX10_isMet pc = some q → decode cX10_isMet pc = .ok q := lkd_ok DX10_isMet_ok
  obtain ⟨as, has, hAs, hra⟩ := hA.row
  have htl : t < rows.length := (List.getElem?_eq_some_iff.mp ht).1
  have hn := ho.1
  obtain ⟨at', rt', ht1, ht2, ht3⟩ := hra t htl
  cases ht.symm.trans ht2
  have hrt := ho.2 rt (List.mem_of_getElem? ht)
  obtain ⟨k2, hk2, -, -, -⟩ := hrt.1.at hp
  have outer : ∀ (d j : Nat), d = t + 1 - j → j ≤ t + 1 → ∀ (l : List (Nat × Value)), lsel l [3, 0, 1, 2] = [(3, vI j), (0, .ref A), (1, vI t), (2, vI pl)] → WR p la e (rmD 3 0 0) s m args below meth c D cA B0 5 (booP h) 2 l [] h 0 0 := by
    intro d
    induction d with
    | zero =>
      intro j hd hj l hl
      refine WS.sel [3, 0, 1, 2] hl ?_
      repeat refine fst1_ok X (dk rfl) rfl ?_
      refine br_ok X (dk rfl) rfl (show ((4 : Nat) : Int) + 53 = ((57 : Nat) : Int) from rfl) (fun c1 => ?_) (fun c1 => absurd (nI_lt (by omega) (by omega)) c1)
      repeat refine fst1_ok X (dk rfl) rfl ?_
      exact reti_ok X hr hlk rfl (dk rfl) ⟨Or.inl rfl, rfl⟩ (Nat.le_refl _) (Nat.le_refl _)
    | succ d ih =>
      intro j hd hj l hl
      obtain ⟨a, x, ha1, ha2, ha3⟩ := hra j (by omega)
      have hx := ho.2 x (List.mem_of_getElem? ha2)
      have f3 : Value.int (nI j + Int32.ofInt 1) = vI (j + 1) := congrArg Value.int (by rw [nI_1', nI_add])
      -- the bound of the inner loop
      have inner : ∀ (N : Nat), N ≤ x.length → (j = t → N = pl) → (j ≠ t → N = x.length) → ∀ (d2 i : Nat), d2 = N - i → i ≤ N → ∀ (l : List (Nat × Value)), lsel l [4, 3, 0, 1, 2] = [(4, vI i), (3, vI j), (0, .ref A), (1, vI t), (2, vI pl)] → WR p la e (rmD 3 0 0) s m args below meth c D cA B0 5 (booP h) 10 l [] h 0 0 := by
        intro N hN hN1 hN2 d2
        induction d2 with
        | zero =>
          intro i hd2 hi l hl
          have hi2 : i = N := by omega
          subst hi2
          have fin' : ∀ (l : List (Nat × Value)), lsel l [3, 0, 1, 2] = [(3, vI j), (0, .ref A), (1, vI t), (2, vI pl)] → WR p la e (rmD 3 0 0) s m args below meth c D cA B0 5 (booP h) 25 l [vI i, vI i] h 0 0 := by
            intro l hl
            refine WS.sel [3, 0, 1, 2] hl ?_
            refine br_ok X (dk rfl) rfl (show ((25 : Nat) : Int) + 26 = ((51 : Nat) : Int) from rfl) (fun c1 => ?_) (fun c1 => absurd (Int32.le_refl _) c1)
            repeat refine fst1_ok X (dk rfl) rfl ?_
            refine br_ok X (dk rfl) rfl (show ((54 : Nat) : Int) + (-52) = ((2 : Nat) : Int) from rfl) (fun _ => ?_) (fun q => absurd trivial q)
            refine WS.sel (l' := [(3, vI (j + 1)), (0, .ref A), (1, vI t), (2, vI pl)]) [3, 0, 1, 2] (by rw [← f3]; rfl) ?_
            exact ih (j + 1) (by omega) (by omega) _ rfl
          refine WS.sel [4, 3, 0, 1, 2] hl ?_
          repeat refine fst1_ok X (dk rfl) rfl ?_
          refine br_ok X (dk rfl) rfl (show ((14 : Nat) : Int) + 7 = ((21 : Nat) : Int) from rfl) (fun c2 => ?_) (fun c2 => ?_)
          · have hjt : j ≠ t := fun z => c2 (by rw [z])
            repeat refine fst1_ok X (dk rfl) rfl ?_
            refine ldr_ok X (dk rfl) hAs ha1 (by omega) ?_
            refine alen_ok X (by decide) (dk rfl) ha3 ?_
            rw [show (x.map vI).length = i by rw [List.length_map, hN2 hjt]]
            exact fin' _ rfl
          · have hjt : j = t := (nI_eq (by omega) (by omega)).mp (Decidable.not_not.mp c2)
            refine fst1_ok X (dk rfl) rfl ?_
            refine br_ok X (dk rfl) rfl (show ((18 : Nat) : Int) + 7 = ((25 : Nat) : Int) from rfl) (fun _ => ?_) (fun q => absurd trivial q)
            rw [show nI pl = nI i by rw [hN1 hjt]]
            exact fin' _ (by rw [hN1 hjt]; rfl)
        | succ d2 ih2 =>
          intro i hd2 hi l hl
          obtain ⟨k1, hk1, -, -, -⟩ := hx.1.at (j := i) (by omega)
          have go' : ∀ (l : List (Nat × Value)), lsel l [4, 3, 0, 1, 2] = [(4, vI i), (3, vI j), (0, .ref A), (1, vI t), (2, vI pl)] → WR p la e (rmD 3 0 0) s m args below meth c D cA B0 5 (booP h) 25 l [vI N, vI i] h 0 0 := by
            intro l hl
            refine WS.sel [4, 3, 0, 1, 2] hl ?_
            refine br_ok X (dk rfl) rfl (show ((25 : Nat) : Int) + 26 = ((51 : Nat) : Int) from rfl) (fun c1 => absurd c1 (nI_ge (by omega) (by omega))) (fun c1 => ?_)
            repeat refine fst1_ok X (dk rfl) rfl ?_
            refine ldr_ok X (dk rfl) hAs ha1 (by omega) ?_
            repeat refine fst1_ok X (dk rfl) rfl ?_
            refine ldr_ok X (dk rfl) hAs ht1 (by omega) ?_
            repeat refine fst1_ok X (dk rfl) rfl ?_
            refine callS_ok (av := [.ref a, vI i, .ref at', vI pl]) (r := []) X E (c_isAt h ha3 ht3 (by omega) (by omega) hx.1.lt hrt.1.lt hk1 hk2) lkX10_isAt mlX10_70 lsX10_isAt ⟨Nat.le_of_ble_eq_true rfl, Nat.le_of_ble_eq_true rfl⟩ ⟨Nat.le_of_ble_eq_true rfl, Nat.le_of_ble_eq_true rfl⟩ (Nat.le_of_ble_eq_true rfl) (dk rfl) ?_
            rintro v h' ⟨rfl, rfl⟩
            split
            · refine br_ok X (dk rfl) rfl (show ((40 : Nat) : Int) + 5 = ((45 : Nat) : Int) from rfl) (fun c2 => absurd c2 (by decide)) (fun c2 => ?_)
              repeat refine fst1_ok X (dk rfl) rfl ?_
              exact reti_ok X hr hlk rfl (dk rfl) ⟨Or.inr rfl, rfl⟩ (Nat.le_refl _) (Nat.le_refl _)
            · refine br_ok X (dk rfl) rfl (show ((40 : Nat) : Int) + 5 = ((45 : Nat) : Int) from rfl) (fun c2 => ?_) (fun c2 => absurd rfl c2)
              repeat refine fst1_ok X (dk rfl) rfl ?_
              refine br_ok X (dk rfl) rfl (show ((48 : Nat) : Int) + (-38) = ((10 : Nat) : Int) from rfl) (fun _ => ?_) (fun q => absurd trivial q)
              have f2 : Value.int (nI i + Int32.ofInt 1) = vI (i + 1) := congrArg Value.int (by rw [nI_1', nI_add])
              refine WS.sel (l' := [(4, vI (i + 1)), (3, vI j), (0, .ref A), (1, vI t), (2, vI pl)]) [4, 3, 0, 1, 2] (by rw [← f2]; rfl) ?_
              exact ih2 (i + 1) (by omega) (by omega) _ rfl
          refine WS.sel [4, 3, 0, 1, 2] hl ?_
          repeat refine fst1_ok X (dk rfl) rfl ?_
          refine br_ok X (dk rfl) rfl (show ((14 : Nat) : Int) + 7 = ((21 : Nat) : Int) from rfl) (fun c2 => ?_) (fun c2 => ?_)
          · have hjt : j ≠ t := fun z => c2 (by rw [z])
            repeat refine fst1_ok X (dk rfl) rfl ?_
            refine ldr_ok X (dk rfl) hAs ha1 (by omega) ?_
            refine alen_ok X (by decide) (dk rfl) ha3 ?_
            rw [show (x.map vI).length = N by rw [List.length_map, hN2 hjt]]
            exact go' _ rfl
          · have hjt : j = t := (nI_eq (by omega) (by omega)).mp (Decidable.not_not.mp c2)
            refine fst1_ok X (dk rfl) rfl ?_
            refine br_ok X (dk rfl) rfl (show ((18 : Nat) : Int) + 7 = ((25 : Nat) : Int) from rfl) (fun _ => ?_) (fun q => absurd trivial q)
            rw [show nI pl = nI N by rw [hN1 hjt]]
            exact go' _ rfl
      refine WS.sel [3, 0, 1, 2] hl ?_
      repeat refine fst1_ok X (dk rfl) rfl ?_
      refine br_ok X (dk rfl) rfl (show ((4 : Nat) : Int) + 53 = ((57 : Nat) : Int) from rfl) (fun c1 => absurd c1 (nI_nlt (by omega) (by omega))) (fun c1 => ?_)
      iterate 2 refine fst1_ok X (dk rfl) rfl ?_
      by_cases hjt : j = t
      · have hxr : x = rt := by rw [hjt, ht] at ha2; exact (Option.some.inj ha2).symm
        exact inner pl (by rw [hxr]; omega) (fun _ => rfl) (fun z => absurd hjt z) _ 0 rfl (Nat.zero_le _) _ rfl
      · exact inner x.length (Nat.le_refl _) (fun z => absurd z hjt) (fun _ => rfl) _ 0 rfl (Nat.zero_le _) _ rfl
  iterate 2 refine fst1_ok X (dk rfl) rfl ?_
  exact outer _ 0 rfl (Nat.zero_le _) _ rfl
set_option maxHeartbeats 8000000 in
theorem c_sharedOf (h : AH) {A : Nat} {rows : List (List Nat)} (hA : Ans h A rows) (ho : RO rows) : CT la D cA B0 pa yX10_sharedOf cX10_sharedOf 4 (some .int) (rmD 4 0 0) [.ref A] h (intP h) := by
  refine CT_of (by decide +kernel) (Nat.le_of_ble_eq_true rfl) ?_
  intro p e s m args below meth c X E hr hlk hnm
  have dk : ∀ {pc : Nat} {q : Instr × Nat}, lkd DX10_sharedOf pc = some q → decode cX10_sharedOf pc = .ok q := lkd_ok DX10_sharedOf_ok
  obtain ⟨as, has, hAs, hra⟩ := hA.row
  have hn := ho.1
  have outer : ∀ (d j : Nat), d = rows.length - j → j ≤ rows.length → ∀ (z : Int32) (l : List (Nat × Value)), lsel l [2, 1, 0] = [(2, vI j), (1, .int z), (0, .ref A)] → WR p la e (rmD 4 0 0) s m args below meth c D cA B0 4 (intP h) 4 l [] h 0 0 := by
    intro d
    induction d with
    | zero =>
      intro j hd hj z l hl
      have hj2 : j = rows.length := by omega
      subst hj2
      refine WS.sel [2, 1, 0] hl ?_
      repeat refine fst1_ok X (dk rfl) rfl ?_
      refine alen_ok X (by decide) (dk rfl) hAs ?_
      rw [show (as.map Value.ref).length = rows.length by rw [List.length_map, has]]
      refine br_ok X (dk rfl) rfl (show ((7 : Nat) : Int) + 42 = ((49 : Nat) : Int) from rfl) (fun c1 => ?_) (fun c1 => absurd (Int32.le_refl _) c1)
      repeat refine fst1_ok X (dk rfl) rfl ?_
      exact reti_ok X hr hlk rfl (dk rfl) ⟨⟨_, rfl⟩, rfl⟩ (Nat.le_refl _) (Nat.le_refl _)
    | succ d ih =>
      intro j hd hj z l hl
      obtain ⟨a, x, ha1, ha2, ha3⟩ := hra j (by omega)
      have hx := ho.2 x (List.mem_of_getElem? ha2)
      have inner : ∀ (d2 i : Nat), d2 = x.length - i → i ≤ x.length → ∀ (z : Int32) (l : List (Nat × Value)), lsel l [3, 2, 1, 0] = [(3, vI i), (2, vI j), (1, .int z), (0, .ref A)] → WR p la e (rmD 4 0 0) s m args below meth c D cA B0 4 (intP h) 12 l [] h 0 0 := by
        intro d2
        induction d2 with
        | zero =>
          intro i hd2 hi z l hl
          have hi2 : i = x.length := by omega
          subst hi2
          refine WS.sel [3, 2, 1, 0] hl ?_
          repeat refine fst1_ok X (dk rfl) rfl ?_
          refine ldr_ok X (dk rfl) hAs ha1 (by omega) ?_
          refine alen_ok X (by decide) (dk rfl) ha3 ?_
          rw [show (x.map vI).length = x.length from List.length_map _]
          refine br_ok X (dk rfl) rfl (show ((17 : Nat) : Int) + 26 = ((43 : Nat) : Int) from rfl) (fun c1 => ?_) (fun c1 => absurd (Int32.le_refl _) c1)
          repeat refine fst1_ok X (dk rfl) rfl ?_
          refine br_ok X (dk rfl) rfl (show ((46 : Nat) : Int) + (-42) = ((4 : Nat) : Int) from rfl) (fun _ => ?_) (fun q => absurd trivial q)
          have f2 : Value.int (nI j + Int32.ofInt 1) = vI (j + 1) := congrArg Value.int (by rw [nI_1', nI_add])
          refine WS.sel (l' := [(2, vI (j + 1)), (1, .int z), (0, .ref A)]) [2, 1, 0] (by rw [← f2]; rfl) ?_
          exact ih (j + 1) (by omega) (by omega) _ _ rfl
        | succ d2 ih2 =>
          intro i hd2 hi z l hl
          have f2 : Value.int (nI i + Int32.ofInt 1) = vI (i + 1) := congrArg Value.int (by rw [nI_1', nI_add])
          have back : ∀ (w : Int32) (l : List (Nat × Value)), lsel l [3, 2, 0] = [(3, vI i), (2, vI j), (0, .ref A)] → WR p la e (rmD 4 0 0) s m args below meth c D cA B0 4 (intP h) 35 l [.int w, .int z] h 0 0 := by
            intro w l hl
            refine WS.sel [3, 2, 0] hl ?_
            repeat refine fst1_ok X (dk rfl) rfl ?_
            refine br_ok X (dk rfl) rfl (show ((40 : Nat) : Int) + (-28) = ((12 : Nat) : Int) from rfl) (fun _ => ?_) (fun q => absurd trivial q)
            refine WS.sel (l' := [(3, vI (i + 1)), (2, vI j), (1, .int (z + w)), (0, .ref A)]) [3, 2, 1, 0] (by rw [← f2]; rfl) ?_
            exact ih2 (i + 1) (by omega) (by omega) _ _ rfl
          refine WS.sel [3, 2, 1, 0] hl ?_
          repeat refine fst1_ok X (dk rfl) rfl ?_
          refine ldr_ok X (dk rfl) hAs ha1 (by omega) ?_
          refine alen_ok X (by decide) (dk rfl) ha3 ?_
          rw [show (x.map vI).length = x.length from List.length_map _]
          refine br_ok X (dk rfl) rfl (show ((17 : Nat) : Int) + 26 = ((43 : Nat) : Int) from rfl) (fun c1 => absurd c1 (nI_ge (by omega) (by omega))) (fun c1 => ?_)
          repeat refine fst1_ok X (dk rfl) rfl ?_
          refine callS_ok (av := [.ref A, vI j, vI i]) (r := [.int z]) X E (c_isMet h hA ho ha2 (by omega)) lkX10_isMet mlX10_66 lsX10_isMet ⟨Nat.le_of_ble_eq_true rfl, Nat.le_of_ble_eq_true rfl⟩ ⟨Nat.le_of_ble_eq_true rfl, Nat.le_of_ble_eq_true rfl⟩ (Nat.le_of_ble_eq_true rfl) (dk rfl) ?_
          rintro v h' ⟨hv, rfl⟩
          rcases hv with rfl | rfl
          · refine br_ok X (dk rfl) rfl (show ((27 : Nat) : Int) + 7 = ((34 : Nat) : Int) from rfl) (fun c2 => ?_) (fun c2 => absurd rfl c2)
            refine fst1_ok X (dk rfl) rfl ?_
            exact back _ _ rfl
          · refine br_ok X (dk rfl) rfl (show ((27 : Nat) : Int) + 7 = ((34 : Nat) : Int) from rfl) (fun c2 => absurd c2 (by decide)) (fun c2 => ?_)
            refine fst1_ok X (dk rfl) rfl ?_
            refine br_ok X (dk rfl) rfl (show ((31 : Nat) : Int) + 4 = ((35 : Nat) : Int) from rfl) (fun _ => ?_) (fun q => absurd trivial q)
            exact back _ _ rfl
      refine WS.sel [2, 1, 0] hl ?_
      repeat refine fst1_ok X (dk rfl) rfl ?_
      refine alen_ok X (by decide) (dk rfl) hAs ?_
      rw [show (as.map Value.ref).length = rows.length by rw [List.length_map, has]]
      refine br_ok X (dk rfl) rfl (show ((7 : Nat) : Int) + 42 = ((49 : Nat) : Int) from rfl) (fun c1 => absurd c1 (nI_ge (by omega) (by omega))) (fun c1 => ?_)
      iterate 2 refine fst1_ok X (dk rfl) rfl ?_
      exact inner _ 0 rfl (Nat.zero_le _) _ _ rfl
  iterate 4 refine fst1_ok X (dk rfl) rfl ?_
  exact outer _ 0 rfl (Nat.zero_le _) _ _ rfl
end M13
end U29m11
section U30m12
/-! plainOf -/
def plainStep (st : List Nat × Nat × List Nat) (x : Nat) : List Nat × Nat × List Nat :=
  if 10 ≤ x then (st.1, st.2.1, st.2.2 ++ [x]) else if st.1.getD x 0 = 0 then (st.1.set x (st.2.1 + 1), st.2.1 + 1, st.2.2 ++ [st.2.1]) else (st.1, st.2.1, st.2.2 ++ [st.1.getD x 0 - 1])
def plainS (xs : List Nat) : List Nat × Nat × List Nat := xs.foldl plainStep (List.replicate 8 0, 0, [])
def plainL (xs : List Nat) : List Nat := (plainS xs).2.2
/-- how many places of a row aren't 0 -/
def nz (xs : List Nat) : Nat := (xs.filter (fun x => decide (x ≠ 0))).length
theorem nz_set : ∀ {xs : List Nat} {j v : Nat}, xs[j]? = some 0 → v ≠ 0 → nz (xs.set j v) = nz xs + 1
  | [], j, v, h, hv => by simp at h
  | x :: r, 0, v, h, hv => by
    simp only [List.getElem?_cons_zero, Option.some.injEq] at h
    subst h
    simp [nz, List.filter_cons, hv]
  | x :: r, j + 1, v, h, hv => by
    simp only [List.getElem?_cons_succ] at h
    have ih := nz_set (xs := r) h hv
    unfold nz at ih ⊢
    rw [List.set_cons_succ, List.filter_cons, List.filter_cons]
    split <;> simp only [List.length_cons, ih]
theorem nz_le (xs : List Nat) : nz xs ≤ xs.length := List.length_filter_le _ _
def PI (st : List Nat × Nat × List Nat) (n : Nat) : Prop := st.1.length = 8 ∧ st.2.1 = nz st.1 ∧ (∀ x ∈ st.1, x ≤ st.2.1) ∧ st.2.2.length = n
theorem plainS_succ {xs : List Nat} {j x : Nat} (h : xs[j]? = some x) : plainS (xs.take (j + 1)) = plainStep (plainS (xs.take j)) x := foldl_take_succ _ _ h
theorem getD_mem {xs : List Nat} {j : Nat} (h : j < xs.length) : ∃ y, xs[j]? = some y ∧ xs.getD j 0 = y ∧ y ∈ xs := ⟨xs[j], by simp [h], by simp [List.getD_eq_getElem?_getD, h], List.getElem_mem h⟩
theorem PI_step {st : List Nat × Nat × List Nat} {n x : Nat} (h : PI st n) (hx : okL x) : PI (plainStep st x) (n + 1) ∧ (plainStep st x).2.1 ≤ 8 ∧ ∃ y, (plainStep st x).2.2 = st.2.2 ++ [y] ∧ okL y ∧ pF y = pF x := by
  obtain ⟨h1, h2, h3, h4⟩ := h
  have h8 := nz_le st.1
  unfold plainStep
  by_cases hx10 : 10 ≤ x
  · rw [if_pos hx10]
    exact ⟨⟨h1, h2, h3, by simp [h4]⟩, by dsimp only; omega, x, rfl, hx, rfl⟩
  · rw [if_neg hx10]
    have hx8 : x < 8 := by rcases hx with q | q <;> omega
    obtain ⟨y, hy1, hy2, hy3⟩ := getD_mem (xs := st.1) (j := x) (by omega)
    have hpx : pF x = 0 := by unfold pF; rw [if_pos (by omega)]
    rw [hy2]
    by_cases hy0 : y = 0
    · subst hy0
      rw [if_pos rfl]
      have hn := nz_set (v := st.2.1 + 1) hy1 (by omega)
      have h9 := nz_le (st.1.set x (st.2.1 + 1))
      rw [hn, List.length_set] at h9
      refine ⟨⟨by simp [h1], by dsimp only; rw [hn]; omega, fun z hz => ?_, by simp [h4]⟩, by dsimp only; omega, st.2.1, rfl, Or.inl (by omega), ?_⟩
      · dsimp only at hz ⊢
        rcases List.mem_or_eq_of_mem_set hz with q | q
        · have := h3 z q; omega
        · omega
      · rw [hpx]; unfold pF; rw [if_pos (by omega)]
    · rw [if_neg hy0]
      have hle := h3 y hy3
      refine ⟨⟨h1, h2, h3, by simp [h4]⟩, by dsimp only; omega, y - 1, rfl, Or.inl (by omega), ?_⟩
      rw [hpx]; unfold pF; rw [if_pos (by omega)]
theorem plainS_ok {xs : List Nat} (hx : ∀ x ∈ xs, okL x) : ∀ j, j ≤ xs.length → PI (plainS (xs.take j)) j ∧ (plainS (xs.take j)).2.1 ≤ 8 ∧ (∀ y ∈ (plainS (xs.take j)).2.2, okL y) ∧ (plainS (xs.take j)).2.2.map pF = (xs.take j).map pF := by
  intro j
  induction j with
  | zero =>
    intro _
    refine ⟨⟨rfl, rfl, fun x hx => ?_, rfl⟩, Nat.zero_le _, fun y hy => ?_, rfl⟩
    · have : x = 0 := by simpa [plainS] using hx
      omega
    · simp [plainS] at hy
  | succ j ih =>
    intro hj
    obtain ⟨x, hx1⟩ : ∃ x, xs[j]? = some x := ⟨xs[j]'(by omega), by simp⟩
    obtain ⟨i1, i2, i3, i4⟩ := ih (by omega)
    obtain ⟨p1, p2, y, p3, p4, p5⟩ := PI_step i1 (hx x (List.mem_of_getElem? hx1))
    rw [plainS_succ hx1]
    refine ⟨p1, p2, fun z hz => ?_, ?_⟩
    · rw [p3] at hz
      rcases List.mem_append.mp hz with q | q
      · exact i3 z q
      · simp at q; subst q; exact p4
    · rw [p3, List.map_append, i4, List.take_succ, hx1, List.map_append]
      simp [p5]
theorem endL_pF : ∀ (xs ys : List Nat) (n : Nat), xs.map pF = ys.map pF → endL n xs = endL n ys
  | [], [], n, _ => rfl
  | [], y :: ys, n, h => by simp at h
  | x :: xs, [], n, h => by simp at h
  | x :: xs, y :: ys, 0, _ => by simp [endL]
  | x :: xs, y :: ys, n + 1, h => by
    simp only [List.map_cons, List.cons.injEq] at h
    simp only [endL, h.1, endL_pF xs ys _ h.2]
theorem TW.plain {xs : List Nat} (h : TW xs) : TW (plainL xs) ∧ (plainL xs).length = xs.length := by
  have := plainS_ok h.2 xs.length (Nat.le_refl _)
  rw [List.take_length] at this
  obtain ⟨i1, i2, i3, i4⟩ := this
  have hl : (plainL xs).length = xs.length := i1.2.2.2
  exact ⟨⟨by rw [hl, ← h.1]; exact endL_pF _ _ 1 i4, i3⟩, hl⟩
def fillO (out : List Nat) (n : Nat) : List Value := out.map vI ++ List.replicate (n - out.length) (.int 0)
theorem fillO_len {out : List Nat} {n : Nat} (h : out.length ≤ n) : (fillO out n).length = n := by simp [fillO]; omega
theorem fillO_set {out : List Nat} {n y : Nat} (h : out.length < n) : (fillO out n).set out.length (vI y) = fillO (out ++ [y]) n := by
  have e2 : n - out.length = (n - (out.length + 1)) + 1 := by omega
  unfold fillO
  rw [e2, List.replicate_succ, List.set_append_right _ _ (by simp), List.map_append, List.append_assoc, List.length_append]
  simp
theorem fillO_end (out : List Nat) : fillO out out.length = out.map vI := by simp [fillO]
section M14
variable {la : Launch} {D : va_G} {cA : Nat → ClassId} {B0 pa : Nat}
set_option maxHeartbeats 16000000 in
theorem c_plainOf (h : AH) {a : Nat} {xs : List Nat} (ha : h a = some (IA xs)) (hx : ∀ x ∈ xs, okL x) (hn : xs.length ≤ 16) : CT la D cA B0 pa yX10_plainOf cX10_plainOf 5 (some (.array .int)) (rmD 0 2 (8 + xs.length)) [.ref a] h (newE B0 h (plainL xs)) := by
  refine CT_of (by decide +kernel) (Nat.le_of_ble_eq_true rfl) ?_
  intro p e s m args below meth c X E hr hlk hnm
  have dk : ∀ {pc : Nat} {q : Instr × Nat}, lkd DX10_plainOf pc = some q → decode cX10_plainOf pc = .ok q := lkd_ok DX10_plainOf_ok
  have la' : (xs.map vI).length = xs.length := List.length_map _
  repeat refine fst1_ok X (dk rfl) rfl ?_
  refine newI_ok (N := 8) X (by decide) (dk rfl) (by show 0 + 1 ≤ 2; omega) (by show 0 + 8 ≤ 8 + xs.length; omega) (fun f hf hBf => ?_)
  have haf : a ≠ f := fun z => by rw [z, hf] at ha; cases ha
  repeat refine fst1_ok X (dk rfl) rfl ?_
  refine alen_ok (kd := 100) (vs := xs.map vI) X (by decide) (dk rfl) (by rw [hup_ne _ _ haf]; exact ha) ?_
  rw [la']
  refine newI_ok (N := xs.length) X (by omega) (dk rfl) (by show 0 + 1 + 1 ≤ 2; omega) (by show 0 + 8 + xs.length ≤ 8 + xs.length; omega) (fun q hq hB => ?_)
  have hfq : f ≠ q := fun z => by rw [z, hup_self] at hq; cases hq
  have hq0 : h q = none := by rw [hup_ne _ _ (Ne.symm hfq)] at hq; exact hq
  have haq : a ≠ q := fun z => by rw [z, hq0] at ha; cases ha
  have loop : ∀ (d j : Nat), d = xs.length - j → j ≤ xs.length → ∀ (hh : AH) (l : List (Nat × Value)), lsel l [4, 3, 2, 1, 0] = [(4, vI j), (3, vI (plainS (xs.take j)).2.1), (2, .ref q), (1, .ref f), (0, .ref a)] → Ext h hh → hh f = some (IA (plainS (xs.take j)).1) → hh q = some (100, fillO (plainS (xs.take j)).2.2 xs.length) → WR p la e (rmD 0 2 (8 + xs.length)) s m args below meth c D cA B0 5 (newE B0 h (plainL xs)) 15 l [] hh (0 + 1 + 1) (0 + 8 + xs.length) := by
    intro d
    induction d with
    | zero =>
      intro j hd hj hh l hl hE hf1 hq1
      have hj2 : j = xs.length := by omega
      subst hj2
      have hP := (plainS_ok hx xs.length (Nat.le_refl _)).1
      rw [List.take_length] at hq1 hP
      refine WS.sel [4, 3, 2, 1, 0] hl ?_
      repeat refine fst1_ok X (dk rfl) rfl ?_
      refine alen_ok X (by decide) (dk rfl) (hE _ _ ha) ?_
      rw [la']
      refine br_ok X (dk rfl) rfl (show ((19 : Nat) : Int) + 60 = ((79 : Nat) : Int) from rfl) (fun c1 => ?_) (fun c1 => absurd (Int32.le_refl _) c1)
      repeat refine fst1_ok X (dk rfl) rfl ?_
      refine reta_ok X hr hlk (Or.inr ⟨_, rfl⟩) (Or.inr ⟨_, rfl⟩) (dk rfl) ⟨q, rfl, hq0, hB, hE, ?_⟩ (Nat.le_refl _) (by show 0 + 8 + xs.length ≤ 8 + xs.length; omega)
      rw [hq1, ← hP.2.2.2, fillO_end]
      rfl
    | succ d ih =>
      intro j hd hj hh l hl hE hf1 hq1
      obtain ⟨x, hx1⟩ : ∃ x, xs[j]? = some x := ⟨xs[j]'(by omega), by simp⟩
      have hok := hx x (List.mem_of_getElem? hx1)
      have hx18 := hok.lt
      obtain ⟨hP, hP8, -, -⟩ := plainS_ok hx j (by omega)
      obtain ⟨hQ, hQ8, -⟩ := PI_step hP hok
      have hS := plainS_succ hx1
      generalize hst : plainS (xs.take j) = st at hP hP8 hQ hQ8 hS hl hf1 hq1
      have f2 : Value.int (nI j + Int32.ofInt 1) = vI (j + 1) := congrArg Value.int (by rw [nI_1', nI_add])
      have back : ∀ (h4 : AH) (l : List (Nat × Value)), lsel l [4, 3, 2, 1, 0] = [(4, vI j), (3, vI (plainStep st x).2.1), (2, .ref q), (1, .ref f), (0, .ref a)] → Ext h h4 → h4 f = some (IA (plainStep st x).1) → h4 q = some (100, fillO (plainStep st x).2.2 xs.length) → WR p la e (rmD 0 2 (8 + xs.length)) s m args below meth c D cA B0 5 (newE B0 h (plainL xs)) 73 l [] h4 (0 + 1 + 1) (0 + 8 + xs.length) := by
        intro h4 l hl hE4 hf4 hq4
        refine WS.sel [4, 3, 2, 1, 0] hl ?_
        repeat refine fst1_ok X (dk rfl) rfl ?_
        refine br_ok X (dk rfl) rfl (show ((76 : Nat) : Int) + (-61) = ((15 : Nat) : Int) from rfl) (fun _ => ?_) (fun q => absurd trivial q)
        refine WS.sel (l' := [(4, vI (j + 1)), (3, vI (plainStep st x).2.1), (2, .ref q), (1, .ref f), (0, .ref a)]) [4, 3, 2, 1, 0] (by rw [← f2]; rfl) ?_
        exact ih (j + 1) (by omega) (by omega) h4 _ (by rw [hS]; rfl) hE4 (by rw [hS]; exact hf4) (by rw [hS]; exact hq4)
      have hol : st.2.2.length = j := hP.2.2.2
      refine WS.sel [4, 3, 2, 1, 0] hl ?_
      repeat refine fst1_ok X (dk rfl) rfl ?_
      refine alen_ok X (by decide) (dk rfl) (hE _ _ ha) ?_
      rw [la']
      refine br_ok X (dk rfl) rfl (show ((19 : Nat) : Int) + 60 = ((79 : Nat) : Int) from rfl) (fun c1 => absurd c1 (nI_ge (by omega) (by omega))) (fun c1 => ?_)
      repeat refine fst1_ok X (dk rfl) rfl ?_
      refine ald_ok X (Or.inl ⟨rfl, rfl⟩) (dk rfl) (hE _ _ ha) (inA_nI (by omega) (IA_get hx1)) ?_
      refine sti_ok X (dk rfl) hq1 (by rw [fillO_len (by omega)]; omega) (by rw [fillO_len (by omega)]; omega) ?_
      have hE2 : Ext h (hup hh q (100, (fillO st.2.2 xs.length).set j (vI x))) := hE.set hq0 _
      repeat refine fst1_ok X (dk rfl) rfl ?_
      refine ald_ok X (Or.inl ⟨rfl, rfl⟩) (dk rfl) (hE2 _ _ ha) (inA_nI (by omega) (IA_get hx1)) ?_
      repeat refine fst1_ok X (dk rfl) rfl ?_
      refine br_ok X (dk rfl) rfl (show ((36 : Nat) : Int) + 6 = ((42 : Nat) : Int) from rfl) (fun c2 => ?_) (fun c2 => ?_)
      · rw [nI_10] at c2
        have hx10 : ¬ 10 ≤ x := by have := (nI_ltI (by omega) (by omega)).mp c2; omega
        have hx8 : x < 8 := by rcases hok with q | q <;> omega
        obtain ⟨y, hy1, hy2, hy3⟩ := getD_mem (xs := st.1) (j := x) (by rw [hP.1]; omega)
        have hyle := hP.2.2.1 y hy3
        have hf2 : hup hh q (100, (fillO st.2.2 xs.length).set j (vI x)) f = some (IA st.1) := by rw [hup_ne _ _ hfq]; exact hf1
        repeat refine fst1_ok X (dk rfl) rfl ?_
        refine ald_ok X (Or.inl ⟨rfl, rfl⟩) (dk rfl) (hE2 _ _ ha) (inA_nI (by omega) (IA_get hx1)) ?_
        refine ald_ok X (Or.inl ⟨rfl, rfl⟩) (dk rfl) hf2 (inA_nI (by omega) (IA_get hy1)) ?_
        -- behind the choice: made[k] = fresh[..] - 1
        have last : ∀ (h3 : AH) (z : Nat) (l : List (Nat × Value)), lsel l [4, 3, 2, 1, 0] = [(4, vI j), (3, vI (plainStep st x).2.1), (2, .ref q), (1, .ref f), (0, .ref a)] → Ext h h3 → h3 f = some (IA (plainStep st x).1) → (plainStep st x).1[x]? = some z → 1 ≤ z → z < 2 ^ 10 → (plainStep st x).2.2 = st.2.2 ++ [z - 1] → h3 q = some (100, (fillO st.2.2 xs.length).set j (vI x)) → WR p la e (rmD 0 2 (8 + xs.length)) s m args below meth c D cA B0 5 (newE B0 h (plainL xs)) 61 l [] h3 (0 + 1 + 1) (0 + 8 + xs.length) := by
          intro h3 z l hl hE3 hf3 hz hz1 hz2 ho hq3
          refine WS.sel [4, 3, 2, 1, 0] hl ?_
          repeat refine fst1_ok X (dk rfl) rfl ?_
          refine ald_ok X (Or.inl ⟨rfl, rfl⟩) (dk rfl) (hE3 _ _ ha) (inA_nI (by omega) (IA_get hx1)) ?_
          refine ald_ok X (Or.inl ⟨rfl, rfl⟩) (dk rfl) hf3 (inA_nI (by omega) (IA_get hz)) ?_
          repeat refine fst1_ok X (dk rfl) rfl ?_
          rw [nI_1', nI_sub hz1]
          refine sti_ok X (dk rfl) hq3 (by rw [List.length_set, fillO_len (by omega)]; omega) (by rw [List.length_set, fillO_len (by omega)]; omega) ?_
          refine back _ _ rfl (hE3.set hq0 _) (by rw [hup_ne _ _ hfq]; exact hf3) ?_
          rw [hup_self, List.set_set, ho, show Value.int (nI (z - 1)) = vI (z - 1) from rfl, ← fillO_set (by omega), hol]
        by_cases hy0 : y = 0
        · subst hy0
          have hstep : plainStep st x = (st.1.set x (st.2.1 + 1), st.2.1 + 1, st.2.2 ++ [st.2.1]) := by unfold plainStep; rw [if_neg hx10, hy2, if_pos rfl]
          rw [hstep] at last
          refine br_ok X (dk rfl) rfl (show ((48 : Nat) : Int) + 13 = ((61 : Nat) : Int) from rfl) (fun c3 => absurd rfl c3) (fun c3 => ?_)
          repeat refine fst1_ok X (dk rfl) rfl ?_
          refine ald_ok X (Or.inl ⟨rfl, rfl⟩) (dk rfl) (hE2 _ _ ha) (inA_nI (by omega) (IA_get hx1)) ?_
          repeat refine fst1_ok X (dk rfl) rfl ?_
          rw [show nI st.2.1 + Int32.ofInt 1 = nI (st.2.1 + 1) by rw [nI_1', nI_add]]
          refine sti_ok X (dk rfl) hf2 (by rw [List.length_map, hP.1]; omega) (by rw [List.length_map, hP.1]; omega) ?_
          refine last _ (st.2.1 + 1) _ rfl ?_ ?_ ?_ (by omega) (by omega) rfl ?_
          · exact hE2.set hf _
          · rw [hup_self, show Value.int (nI (st.2.1 + 1)) = vI (st.2.1 + 1) from rfl]
            unfold IA
            rw [List.map_set]
          · rw [List.getElem?_set_self (by rw [hP.1]; omega)]
          · rw [hup_ne _ _ (Ne.symm hfq), hup_self]
            rfl
        · have hstep : plainStep st x = (st.1, st.2.1, st.2.2 ++ [y - 1]) := by unfold plainStep; rw [if_neg hx10, hy2, if_neg hy0]
          rw [hstep] at last
          refine br_ok X (dk rfl) rfl (show ((48 : Nat) : Int) + 13 = ((61 : Nat) : Int) from rfl) (fun c3 => ?_) (fun c3 => absurd (nI_ne0 (by omega) (by omega)) c3)
          exact last _ y _ rfl hE2 hf2 hy1 (by omega) (by omega) rfl (by rw [hup_self]; rfl)
      · rw [nI_10] at c2
        have hx10 : 10 ≤ x := by
          rcases Nat.lt_or_ge x 10 with z | z
          · exact absurd ((nI_ltI (by omega) (by omega)).mpr z) c2
          · exact z
        have hstep : plainStep st x = (st.1, st.2.1, st.2.2 ++ [x]) := by unfold plainStep; rw [if_pos hx10]
        rw [hstep] at back
        refine br_ok X (dk rfl) rfl (show ((39 : Nat) : Int) + 34 = ((73 : Nat) : Int) from rfl) (fun _ => ?_) (fun q => absurd trivial q)
        refine back _ _ rfl hE2 (by rw [hup_ne _ _ hfq]; exact hf1) ?_
        rw [hup_self, ← fillO_set (by omega), hol]
        rfl
  iterate 5 refine fst1_ok X (dk rfl) rfl ?_
  refine loop _ 0 rfl (Nat.zero_le _) _ _ rfl ((Ext.new hf _).trans (Ext.new hq _)) ?_ ?_
  · rw [hup_ne _ _ hfq, hup_self]
    rfl
  · rw [hup_self]
    simp [fillO, plainS]
end M14
end U30m12
section U31m13
/-! commonOf -/
/-- the size of the term at a place -/
def tl (xs : List Nat) (a : Nat) : Nat := (endL 1 (xs.drop a)).getD 0
def sub' (xs : List Nat) (a : Nat) : List Nat := (xs.drop a).take (tl xs a)
/-- where a pair stands among the pairs, or their number -/
def idxP (q : List Nat × List Nat) : List (List Nat × List Nat) → Nat
  | [] => 0
  | x :: r => if x = q then 0 else idxP q r + 1
theorem idxP_le (q : List Nat × List Nat) : ∀ ps, idxP q ps ≤ ps.length
  | [] => Nat.le_refl _
  | x :: r => by
    have := idxP_le q r
    unfold idxP
    split
    · omega
    · simp only [List.length_cons]; omega
theorem idxP_lt (q : List Nat × List Nat) : ∀ (ps : List (List Nat × List Nat)) (i : Nat), i < idxP q ps → ∃ x, ps[i]? = some x ∧ x ≠ q
  | [], i, h => by simp [idxP] at h
  | x :: r, i, h => by
    unfold idxP at h
    split at h
    · omega
    · rename_i hx
      cases i with
      | zero => exact ⟨x, by simp, hx⟩
      | succ i =>
        obtain ⟨y, h1, h2⟩ := idxP_lt q r i (by omega)
        exact ⟨y, by simpa using h1, h2⟩
theorem idxP_eq (q : List Nat × List Nat) : ∀ (ps : List (List Nat × List Nat)), idxP q ps < ps.length → ps[idxP q ps]? = some q
  | [], h => by simp [idxP] at h
  | x :: r, h => by
    unfold idxP at h ⊢
    split
    · rename_i hx; simp [hx]
    · rename_i hx
      rw [if_neg hx] at h
      simp only [List.length_cons] at h
      simpa using idxP_eq q r (by omega)
def comF (one other : List Nat) : Nat → Nat → Nat → List (List Nat × List Nat) → List Nat → List (List Nat × List Nat) × List Nat
  | 0, _, _, ps, M => (ps, M)
  | n + 1, a, b, ps, M => match one[a]?, other[b]? with
    | some x, some y => if x = y ∧ 10 ≤ x then comF one other n (a + 1) (b + 1) ps (M ++ [x]) else
        comF one other n (a + tl one a) (b + tl other b) (if idxP (sub' one a, sub' other b) ps < ps.length then ps else ps ++ [(sub' one a, sub' other b)]) (M ++ [idxP (sub' one a, sub' other b) ps])
    | _, _ => (ps, M)
def comL (one other : List Nat) : List (List Nat × List Nat) × List Nat := comF one other 16 0 0 [] []
/-- what holds between the terms, the places and what is made -/
def CI (one other : List Nat) (a b : Nat) (ps : List (List Nat × List Nat)) (M : List Nat) (nd : Nat) : Prop :=
  endL nd (one.drop a) = some (one.length - a) ∧ endL nd (other.drop b) = some (other.length - b) ∧ a ≤ one.length ∧ b ≤ other.length ∧ M.length ≤ a ∧ ps.length ≤ M.length ∧
  (∀ q ∈ ps, TW q.1 ∧ q.1.length ≤ 16 ∧ TW q.2 ∧ q.2.length ≤ 16) ∧ (ps.length ≤ 8 → (∀ R k, endL nd R = some k → endL 1 (M ++ R) = some (M.length + k)) ∧ ∀ x ∈ M, okL x)
theorem endL_nil {n k : Nat} (h : endL n [] = some k) : n = 0 := by
  cases n with
  | zero => rfl
  | succ n => simp [endL] at h
theorem CI_head {one other : List Nat} {a b nd x : Nat} {ps : List (List Nat × List Nat)} {M : List Nat} (h : CI one other a b ps M nd) (ha : one[a]? = some x) (hb : other[b]? = some x) (hx : 10 ≤ x) (hx2 : x < 18) : ∃ nd', CI one other (a + 1) (b + 1) ps (M ++ [x]) nd' := by
  obtain ⟨h1, h2, h3, h4, h5, h6, h7, h8⟩ := h
  have la := (List.getElem?_eq_some_iff.mp ha).1
  have lb := (List.getElem?_eq_some_iff.mp hb).1
  rw [drop_cons ha] at h1
  rw [drop_cons hb] at h2
  cases nd with
  | zero => simp [endL] at h1; omega
  | succ n =>
    simp only [endL, Option.map_eq_some_iff] at h1 h2
    obtain ⟨k1, e1, e2⟩ := h1
    obtain ⟨k2, e3, e4⟩ := h2
    refine ⟨n + pF x, by rw [e1]; congr 1; omega, by rw [e3]; congr 1; omega, by omega, by omega, by simp; omega, by simp; omega, h7, fun q => ?_⟩
    obtain ⟨g1, g2⟩ := h8 q
    refine ⟨fun R k hR => ?_, fun y hy => ?_⟩
    · have := g1 (x :: R) (k + 1) (by simp [endL, hR])
      rw [List.append_assoc, List.singleton_append, this, List.length_append, List.length_singleton]
      congr 1
      omega
    · rcases List.mem_append.mp hy with z | z
      · exact g2 y z
      · simp at z; subst z; exact Or.inr ⟨hx, hx2⟩
theorem CI_name {one other : List Nat} {a b nd : Nat} {ps : List (List Nat × List Nat)} {M : List Nat} (h : CI one other a b ps M nd) (ho : TW one) (hp : TW other) (l1 : one.length ≤ 16) (l2 : other.length ≤ 16) (ha : a < one.length) :
    b < other.length ∧ endL 1 (one.drop a) = some (tl one a) ∧ endL 1 (other.drop b) = some (tl other b) ∧ 0 < tl one a ∧ 0 < tl other b ∧ a + tl one a ≤ one.length ∧ b + tl other b ≤ other.length ∧ TW (sub' one a) ∧ TW (sub' other b) ∧ (sub' one a).length = tl one a ∧ (sub' other b).length = tl other b ∧
    ∃ nd', CI one other (a + tl one a) (b + tl other b) (if idxP (sub' one a, sub' other b) ps < ps.length then ps else ps ++ [(sub' one a, sub' other b)]) (M ++ [idxP (sub' one a, sub' other b) ps]) nd' := by
  obtain ⟨h1, h2, h3, h4, h5, h6, h7, h8⟩ := h
  cases nd with
  | zero => simp [endL] at h1; omega
  | succ n =>
    have hb : b < other.length := by
      rcases Nat.lt_or_ge b other.length with q | q
      · exact q
      · rw [List.drop_eq_nil_of_le q] at h2; have := endL_nil h2; omega
    obtain ⟨k1, e1, e2, e3, e4⟩ := ho.at ha
    obtain ⟨k2, f1, f2, f3, f4⟩ := hp.at hb
    have t1 : tl one a = k1 := by unfold tl; rw [e1]; rfl
    have t2 : tl other b = k2 := by unfold tl; rw [f1]; rfl
    have s1 : (sub' one a).length = tl one a := by unfold sub'; rw [t1]; simp; omega
    have s2 : (sub' other b).length = tl other b := by unfold sub'; rw [t2]; simp; omega
    have w1 : TW (sub' one a) := by unfold sub'; rw [t1]; exact e4
    have w2 : TW (sub' other b) := by unfold sub'; rw [t2]; exact f4
    rw [show n + 1 = 1 + n by omega] at h1 h2
    obtain ⟨j1, g1, g2, g3⟩ := endL_add _ 1 n _ h1
    obtain ⟨j2, g4, g5, g6⟩ := endL_add _ 1 n _ h2
    cases e1.symm.trans g1
    cases f1.symm.trans g4
    rw [List.drop_drop] at g3 g6
    refine ⟨hb, by rw [t1]; exact e1, by rw [t2]; exact f1, by omega, by omega, by omega, by omega, w1, w2, s1, s2, n, ?_⟩
    have hidx := idxP_le (sub' one a, sub' other b) ps
    refine ⟨by rw [t1, g3]; congr 1; omega, by rw [t2, g6]; congr 1; omega, by omega, by omega, by simp; omega, ?_, fun q hq => ?_, fun hle => ?_⟩
    · split
      · simp; omega
      · simp; omega
    · split at hq
      · exact h7 q hq
      · rcases List.mem_append.mp hq with z | z
        · exact h7 q z
        · simp at z; subst z; exact ⟨w1, by show (sub' one a).length ≤ 16; omega, w2, by show (sub' other b).length ≤ 16; omega⟩
    · have hps : ps.length ≤ 8 ∧ idxP (sub' one a, sub' other b) ps < 8 := by
        split at hle
        · exact ⟨hle, by omega⟩
        · simp at hle; omega
      obtain ⟨c1, c2⟩ := h8 hps.1
      refine ⟨fun R k hR => ?_, fun y hy => ?_⟩
      · have hp0 : pF (idxP (sub' one a, sub' other b) ps) = 0 := by unfold pF; rw [if_pos (by omega)]
        have := c1 (idxP (sub' one a, sub' other b) ps :: R) (k + 1) (by simp [endL, hp0, hR])
        rw [List.append_assoc, List.singleton_append, this, List.length_append, List.length_singleton]
        congr 1
        omega
      · rcases List.mem_append.mp hy with z | z
        · exact c2 y z
        · simp at z; subst z; exact Or.inl hps.2
theorem CI_0 {one other : List Nat} (ho : TW one) (hp : TW other) : CI one other 0 0 [] [] 1 :=
  ⟨by simpa using ho.1, by simpa using hp.1, Nat.zero_le _, Nat.zero_le _, Nat.zero_le _, Nat.zero_le _, fun q hq => by simp at hq, fun _ => ⟨fun R k hR => by simpa using hR, fun x hx => by simp at hx⟩⟩
theorem comF_ok {one other : List Nat} (ho : TW one) (hp : TW other) (l1 : one.length ≤ 16) (l2 : other.length ≤ 16) : ∀ (n a b : Nat) (ps : List (List Nat × List Nat)) (M : List Nat) (nd : Nat), CI one other a b ps M nd → one.length ≤ n + a → ∃ nd' b', CI one other one.length b' (comF one other n a b ps M).1 (comF one other n a b ps M).2 nd'
  | 0, a, b, ps, M, nd, h, hn => by
    have : a = one.length := by have := h.2.2.1; omega
    subst this
    exact ⟨nd, b, h⟩
  | n + 1, a, b, ps, M, nd, h, hn => by
    unfold comF
    rcases Nat.lt_or_ge a one.length with ha | ha
    · obtain ⟨n1, n2, n3, n4, n5, -, -, -, -, -, -, nd', hci⟩ := CI_name h ho hp l1 l2 ha
      rw [List.getElem?_eq_getElem ha, List.getElem?_eq_getElem n1]
      dsimp only
      by_cases hxy : one[a] = other[b] ∧ 10 ≤ one[a]
      · rw [if_pos hxy]
        obtain ⟨nd2, h2⟩ := CI_head (x := one[a]) h (List.getElem?_eq_getElem ha) (by rw [List.getElem?_eq_getElem n1, hxy.1]) hxy.2 (ho.2 _ (List.getElem_mem ha)).lt
        exact comF_ok ho hp l1 l2 n (a + 1) (b + 1) ps _ nd2 h2 (by omega)
      · rw [if_neg hxy]
        exact comF_ok ho hp l1 l2 n _ _ _ _ nd' hci (by omega)
    · have hal : a = one.length := by have := h.2.2.1; omega
      subst hal
      rw [List.getElem?_eq_none (Nat.le_refl _)]
      exact ⟨nd, b, h⟩
theorem comL_ok {one other : List Nat} (ho : TW one) (hp : TW other) (l1 : one.length ≤ 16) (l2 : other.length ≤ 16) (h8 : (comL one other).1.length ≤ 8) : TW (comL one other).2 ∧ (comL one other).2.length ≤ 16 := by
  obtain ⟨nd, b, hc⟩ := comF_ok ho hp l1 l2 16 0 0 [] [] 1 (CI_0 ho hp) (by omega)
  obtain ⟨h1, h2, h3, h4, h5, h6, h7, h9⟩ := hc
  obtain ⟨g1, g2⟩ := h9 h8
  rw [List.drop_length] at h1
  have hnd := endL_nil h1
  subst hnd
  have := g1 [] 0 (by simp [endL])
  rw [List.append_nil, Nat.add_zero] at this
  exact ⟨⟨this, g2⟩, by show (comF one other 16 0 0 [] []).2.length ≤ 16; omega⟩
end U31m13
section U32m14
/-! commonOf: the walk -/
theorem filR_upd {as : List Nat} {N j q : Nat} (h : j < as.length) : (filR as N).set j (.ref q) = filR (as.set j q) N := by
  unfold filR
  rw [List.set_append_left _ _ (by simpa using h), List.map_set, List.length_set]
theorem filR_get {as : List Nat} {N j q : Nat} (h : as[j]? = some q) : (filR as N)[j]? = some (.ref q) := by
  have hl : j < as.length := (List.getElem?_eq_some_iff.mp h).1
  unfold filR
  rw [List.getElem?_append_left (by simpa using hl), List.getElem?_map, h]
  rfl
/-- the array of the pairs found so far -/
def PR (h : AH) (P Z : Nat) (ps : List (List Nat × List Nat)) : Prop := ∃ as : List Nat, as.length = 2 * ps.length ∧ h P = some (105, filR as 32) ∧ ∀ (i : Nat) (q : List Nat × List Nat), ps[i]? = some q → ∃ a b, as[2 * i]? = some a ∧ as[2 * i + 1]? = some b ∧ h a = some (IA q.1) ∧ h b = some (IA q.2) ∧ a ≠ Z ∧ b ≠ Z
theorem IA_ne {h : AH} {a P : Nat} {xs : List Nat} {vs : List Value} (ha : h a = some (IA xs)) (hP : h P = some (105, vs)) : a ≠ P := fun z => by rw [z, hP] at ha; simp [IA] at ha
theorem PR.ext {h h' : AH} {P Z : Nat} {ps : List (List Nat × List Nat)} (H : PR h P Z ps) (E : Ext h h') : PR h' P Z ps := by
  obtain ⟨as, h1, h2, h3⟩ := H
  refine ⟨as, h1, E _ _ h2, fun i q hq => ?_⟩
  obtain ⟨a, b, e1, e2, e3, e4, e5⟩ := h3 i q hq
  exact ⟨a, b, e1, e2, E _ _ e3, E _ _ e4, e5⟩
/-- both places of a pair are set -/
theorem PR.put {h : AH} {P Z a b j : Nat} {ps : List (List Nat × List Nat)} {q : List Nat × List Nat} (hZ : a ≠ Z ∧ b ≠ Z) (H : PR h P Z ps) (ha : h a = some (IA q.1)) (hb : h b = some (IA q.2)) (hj : j ≤ ps.length) (hl : j < 16) (h16' : ps.length ≤ 16) (hq : j < ps.length → ps[j]? = some q) :
    ∃ vs, h P = some (105, vs) ∧ vs.length = 32 ∧ PR (hup h P (105, (vs.set (2 * j) (.ref a)).set (2 * j + 1) (.ref b))) P Z (if j < ps.length then ps else ps ++ [q]) := by
  obtain ⟨as, h1, h2, h3⟩ := H
  have h16 : as.length ≤ 32 := by omega
  · refine ⟨_, h2, filR_len h16, ?_⟩
    by_cases hjl : j < ps.length
    · rw [if_pos hjl, filR_upd (by omega), filR_upd (by rw [List.length_set]; omega)]
      refine ⟨_, by simp [h1], hup_self _ _ _, fun i q' hq' => ?_⟩
      obtain ⟨a', b', e1, e2, e3, e4, e5⟩ := h3 i q' hq'
      by_cases hij : i = j
      · subst hij
        cases (hq hjl).symm.trans hq'
        refine ⟨a, b, ?_, ?_, ?_, ?_, hZ⟩
        · rw [List.getElem?_set_ne (by omega), List.getElem?_set_self (by omega)]
        · rw [List.getElem?_set_self (by rw [List.length_set]; omega)]
        · rw [hup_ne _ _ (IA_ne ha h2)]; exact ha
        · rw [hup_ne _ _ (IA_ne hb h2)]; exact hb
      · refine ⟨a', b', ?_, ?_, ?_, ?_, e5⟩
        · rw [List.getElem?_set_ne (by omega), List.getElem?_set_ne (by omega)]; exact e1
        · rw [List.getElem?_set_ne (by omega), List.getElem?_set_ne (by omega)]; exact e2
        · rw [hup_ne _ _ (IA_ne e3 h2)]; exact e3
        · rw [hup_ne _ _ (IA_ne e4 h2)]; exact e4
    · have hj2 : j = ps.length := by omega
      subst hj2
      have e1 : (filR as 32).set (2 * ps.length) (.ref a) = filR (as ++ [a]) 32 := by rw [← h1]; exact filR_set (by omega)
      have e2 : (filR (as ++ [a]) 32).set (2 * ps.length + 1) (.ref b) = filR (as ++ [a] ++ [b]) 32 := by
        have := filR_set (as := as ++ [a]) (N := 32) (q := b) (by simp; omega)
        rw [← this]
        congr 1
        simp [h1]
      rw [if_neg hjl, e1, e2]
      refine ⟨_, by simp [h1]; omega, hup_self _ _ _, fun i q' hq' => ?_⟩
      rcases Nat.lt_or_ge i ps.length with hi | hi
      · rw [List.getElem?_append_left hi] at hq'
        obtain ⟨a', b', e1, e2, e3, e4, e5⟩ := h3 i q' hq'
        refine ⟨a', b', ?_, ?_, ?_, ?_, e5⟩
        · rw [List.append_assoc, List.getElem?_append_left (by omega)]; exact e1
        · rw [List.append_assoc, List.getElem?_append_left (by omega)]; exact e2
        · rw [hup_ne _ _ (IA_ne e3 h2)]; exact e3
        · rw [hup_ne _ _ (IA_ne e4 h2)]; exact e4
      · rw [List.getElem?_append_right hi] at hq'
        have hz : i - ps.length < 1 := (List.getElem?_eq_some_iff.mp hq').1
        have hi2 : i = ps.length := by omega
        subst hi2
        rw [Nat.sub_self] at hq'
        cases hq'
        refine ⟨a, b, ?_, ?_, ?_, ?_, hZ⟩
        · rw [List.append_assoc, List.getElem?_append_right (by omega), h1, Nat.sub_self]; rfl
        · rw [List.append_assoc, List.getElem?_append_right (by omega), h1, show 2 * ps.length + 1 - 2 * ps.length = 1 by omega]; rfl
        · rw [hup_ne _ _ (IA_ne ha h2)]; exact ha
        · rw [hup_ne _ _ (IA_ne hb h2)]; exact hb
theorem nI_mul (a b : Nat) : nI a * nI b = nI (a * b) := by
  apply Int32.toBitVec_inj.mp
  show BitVec.ofNat 32 a * BitVec.ofNat 32 b = BitVec.ofNat 32 (a * b)
  apply BitVec.eq_of_toNat_eq
  simp [Nat.mul_mod]
theorem ld5_ok {p : Program} {la : Launch} {e : Env} {R : Room} {s : State} {m : MethodId} {args : Array Value} {below : List Frame} {meth : Method} {c : Code} {Q : State → Prop} {D : va_G} {cA : Nat → ClassId} {B0 nL : Nat} {cc : ByteArray} {own : String} {pc k n : Nat} {l : List (Nat × Value)} {r : List Value} {h : AH}
    (X : CX p s m args c D cA B0 nL cc own) {a j q : Nat} {vs : List Value} (hd : decode cc pc = .ok (.aaload, 1)) (ha : h a = some (105, vs)) (hq : vs[j]? = some (.ref q)) (hj : j < 2 ^ 31)
    (kk : WS p la e R s m args below meth c Q D cA B0 nL (pc + 1) l (.ref q :: r) h k n) : WS p la e R s m args below meth c Q D cA B0 nL pc l (.int (nI j) :: .ref a :: r) h k n :=
  ald_ok X (Or.inr (Or.inr ⟨rfl, by decide⟩)) hd ha (inA_nI hj hq) kk
/-- null, if there are more than eight names; else the row -/
def comP (B0 : Nat) (h : AH) (F : List (List Nat × List Nat) × List Nat) (v : Option Value) (h' : AH) : Prop := (8 < F.1.length ∧ v = some .null ∧ Ext h h') ∨ (F.1.length ≤ 8 ∧ newE B0 h F.2 v h')
section M15
variable {la : Launch} {D : va_G} {cA : Nat → ClassId} {B0 pa : Nat}
set_option maxHeartbeats 32000000 in
theorem c_commonOf (h : AH) {o t : Nat} {one other : List Nat} (ho : h o = some (IA one)) (ht : h t = some (IA other)) (wo : TW one) (wt : TW other) (l1 : one.length ≤ 16) (l2 : other.length ≤ 16) : CT la D cA B0 pa yX10_commonOf cX10_commonOf 11 (some (.array .int)) (rmD 3 35 96) [.ref o, .ref t] h (comP B0 h (comL one other)) := by
  refine CT_of (by decide +kernel) (Nat.le_of_ble_eq_true rfl) ?_
  intro p e s m args below meth c X E hr hlk hnm
  have dk : ∀ {pc : Nat} {q : Instr × Nat}, lkd DX10_commonOf pc = some q → decode cX10_commonOf pc = .ok q := lkd_ok DX10_commonOf_ok
  have lo : (one.map vI).length = one.length := List.length_map _
  repeat refine fst1_ok X (dk rfl) rfl ?_
  refine newR_ok (N := 32) (kd := 105) X E (by decide) cl10_9 (by decide) (dk rfl) (by decide) (by decide) (fun P hP hBP => ?_)
  repeat refine fst1_ok X (dk rfl) rfl ?_
  refine newI_ok (N := 16) X (by decide) (dk rfl) (by decide) (by decide) (fun q hq hB => ?_)
  have hPq : P ≠ q := fun z => by rw [z, hup_self] at hq; cases hq
  have hq0 : h q = none := by rw [hup_ne _ _ (Ne.symm hPq)] at hq; exact hq
  have done' : ∀ (b : Nat) (ps : List (List Nat × List Nat)) (M : List Nat) (nd : Nat), CI one other one.length b ps M nd → (ps, M) = comL one other → ∀ (hh : AH) (l : List (Nat × Value)), lsel l [7, 6, 5, 4, 3, 2, 0, 1] = [(7, vI b), (6, vI one.length), (5, vI M.length), (4, vI ps.length), (3, .ref q), (2, .ref P), (0, .ref o), (1, .ref t)] → Ext h hh → hh q = some (100, fillO M 16) →
      WR p la e (rmD 3 35 96) s m args below meth c D cA B0 11 (comP B0 h (comL one other)) 23 l [] hh (2 + 2 * M.length) (48 + one.length + b) := by
    intro b ps M nd hci hF hh l hl hE hq1
    obtain ⟨h1, h2, h3, h4, h5, h6, h7, h8⟩ := hci
    refine WS.sel [7, 6, 5, 4, 3, 2, 0, 1] hl ?_
    repeat refine fst1_ok X (dk rfl) rfl ?_
    refine alen_ok X (by decide) (dk rfl) (hE _ _ ho) ?_
    rw [lo]
    refine br_ok X (dk rfl) rfl (show ((27 : Nat) : Int) + 162 = ((189 : Nat) : Int) from rfl) (fun c1 => ?_) (fun c1 => absurd (Int32.le_refl _) c1)
    repeat refine fst1_ok X (dk rfl) rfl ?_
    refine br_ok X (dk rfl) rfl (show ((193 : Nat) : Int) + 7 = ((200 : Nat) : Int) from rfl) (fun c2 => ?_) (fun c2 => ?_)
    · have h8' : ps.length ≤ 8 := nI_ge' (b := 8) (by omega) (by omega) c2
      repeat refine fst1_ok X (dk rfl) rfl ?_
      rw [nI_0']
      -- piece(made, 0, size): the array holds more than M
      have hq2 : hh q = some (IA (M ++ List.replicate (16 - M.length) 0)) := by
        rw [hq1]
        simp [fillO, IA, vI, nI_0]
      refine callS_ok (rm := rmD 0 1 (M.length - 0)) (av := [.ref q, vI 0, vI M.length]) (r := []) X E (c_piece hh (f := 0) (t := M.length) (ys := M) hq2 (Nat.zero_le _) (by simp) (by simp; omega) (by simp)) lkX10_piece mlX10_40 lsX10_piece ⟨Nat.le_of_ble_eq_true rfl, Nat.le_of_ble_eq_true rfl⟩ ⟨by show 2 + 2 * M.length + 1 ≤ 35; omega, by show 48 + one.length + b + (M.length - 0) ≤ 96; omega⟩ (Nat.le_of_ble_eq_true rfl) (dk rfl) ?_
      rintro v h2 ⟨u, rfl, hu, hBu, rfl⟩
      refine reta_ok X hr hlk (Or.inr ⟨_, rfl⟩) (Or.inr ⟨_, rfl⟩) (dk rfl) ?_ (by show 2 + 2 * M.length + 1 ≤ 35; omega) (by show 48 + one.length + b + (M.length - 0) ≤ 96; omega)
      rw [← hF]
      refine Or.inr ⟨h8', u, rfl, ?_, hBu, hE.trans (Ext.new hu _), hup_self _ _ _⟩
      cases hz : h u with
      | none => rfl
      | some cz => rw [hE _ _ hz] at hu; cases hu
    · have h8' : 8 < ps.length := nI_lt' (b := 8) (by omega) (by omega) c2
      repeat refine fst1_ok X (dk rfl) rfl ?_
      refine br_ok X (dk rfl) rfl (show ((197 : Nat) : Int) + 10 = ((207 : Nat) : Int) from rfl) (fun _ => ?_) (fun q => absurd trivial q)
      refine reta_ok X hr hlk (Or.inr ⟨_, rfl⟩) (Or.inl rfl) (dk rfl) ?_ (by show 2 + 2 * M.length ≤ 35; omega) (by show 48 + one.length + b ≤ 96; omega)
      rw [← hF]
      exact Or.inl ⟨h8', rfl, hE⟩
  have loop : ∀ (n a b : Nat) (ps : List (List Nat × List Nat)) (M : List Nat) (nd : Nat), CI one other a b ps M nd → one.length ≤ n + a → comF one other n a b ps M = comL one other → ∀ (hh : AH) (l : List (Nat × Value)), lsel l [7, 6, 5, 4, 3, 2, 0, 1] = [(7, vI b), (6, vI a), (5, vI M.length), (4, vI ps.length), (3, .ref q), (2, .ref P), (0, .ref o), (1, .ref t)] → Ext h hh → PR hh P q ps → hh q = some (100, fillO M 16) →
      WR p la e (rmD 3 35 96) s m args below meth c D cA B0 11 (comP B0 h (comL one other)) 23 l [] hh (2 + 2 * M.length) (48 + a + b) := by
    intro n
    induction n with
    | zero =>
      intro a b ps M nd hci hn hF hh l hl hE hPR hq1
      have hal : a = one.length := by have := hci.2.2.1; omega
      subst hal
      exact done' b ps M nd hci hF hh l hl hE hq1
    | succ n ih =>
      intro a b ps M nd hci hn hF hh l hl hE hPR hq1
      rcases Nat.lt_or_ge a one.length with ha | ha
      · obtain ⟨n1, n2, n3, n4, n5, n6, n7, n8, n9, n10, n11, nd', hci'⟩ := CI_name hci wo wt l1 l2 ha
        have hci0 := hci
        obtain ⟨-, -, -, -, h5, h6, h7, -⟩ := hci0
        obtain ⟨x, hx1⟩ : ∃ x, one[a]? = some x := ⟨one[a], by simp [ha]⟩
        obtain ⟨y, hy1⟩ : ∃ y, other[b]? = some y := ⟨other[b], by simp [n1]⟩
        have hx18 := (wo.2 x (List.mem_of_getElem? hx1)).lt
        have hy18 := (wt.2 y (List.mem_of_getElem? hy1)).lt
        unfold comF at hF
        rw [hx1, hy1] at hF
        dsimp only at hF
        refine WS.sel [7, 6, 5, 4, 3, 2, 0, 1] hl ?_
        repeat refine fst1_ok X (dk rfl) rfl ?_
        refine alen_ok X (by decide) (dk rfl) (hE _ _ ho) ?_
        rw [lo]
        refine br_ok X (dk rfl) rfl (show ((27 : Nat) : Int) + 162 = ((189 : Nat) : Int) from rfl) (fun c1 => absurd c1 (nI_ge (by omega) (by omega))) (fun c1 => ?_)
        repeat refine fst1_ok X (dk rfl) rfl ?_
        refine ald_ok X (Or.inl ⟨rfl, rfl⟩) (dk rfl) (hE _ _ ho) (inA_nI (by omega) (IA_get hx1)) ?_
        repeat refine fst1_ok X (dk rfl) rfl ?_
        refine ald_ok X (Or.inl ⟨rfl, rfl⟩) (dk rfl) (hE _ _ ht) (inA_nI (by omega) (IA_get hy1)) ?_
        -- a name: from 70 on
        have named : ¬ (x = y ∧ 10 ≤ x) → ∀ (l : List (Nat × Value)), lsel l [7, 6, 5, 4, 3, 2, 0, 1] = [(7, vI b), (6, vI a), (5, vI M.length), (4, vI ps.length), (3, .ref q), (2, .ref P), (0, .ref o), (1, .ref t)] → WR p la e (rmD 3 35 96) s m args below meth c D cA B0 11 (comP B0 h (comL one other)) 70 l [] hh (2 + 2 * M.length) (48 + a + b) := by
          intro hne l hl
          rw [if_neg hne] at hF
          refine WS.sel [7, 6, 5, 4, 3, 2, 0, 1] hl ?_
          repeat refine fst1_ok X (dk rfl) rfl ?_
          refine callS_ok (av := [.ref o, vI a]) (r := []) X E (c_at hh (hE _ _ ho) wo.lt (by omega) n2) lkX10_at mlX10_74 lsX10_at ⟨Nat.le_of_ble_eq_true rfl, Nat.le_of_ble_eq_true rfl⟩ ⟨by show 2 + 2 * M.length + 1 ≤ 35; omega, by show 48 + a + b + tl one a ≤ 96; omega⟩ (Nat.le_of_ble_eq_true rfl) (dk rfl) ?_
          rintro v h1 ⟨u1, rfl, hu1, hBu1, rfl⟩
          have hE1 := hE.trans (Ext.new hu1 (IA (sub' one a)))
          repeat refine fst1_ok X (dk rfl) rfl ?_
          refine callS_ok (av := [.ref t, vI b]) (r := []) X E (c_at _ (hE1 _ _ ht) wt.lt (by omega) n3) lkX10_at mlX10_74 lsX10_at ⟨Nat.le_of_ble_eq_true rfl, Nat.le_of_ble_eq_true rfl⟩ ⟨by show 2 + 2 * M.length + 1 + 1 ≤ 35; omega, by show 48 + a + b + tl one a + tl other b ≤ 96; omega⟩ (Nat.le_of_ble_eq_true rfl) (dk rfl) ?_
          rintro v h2 ⟨u2, rfl, hu2, hBu2, rfl⟩
          have hX1 := Ext.new hu1 (IA (sub' one a))
          have hX2 := Ext.new hu2 (IA (sub' other b))
          have hE2 : Ext h (hup (hup hh u1 (IA (sub' one a))) u2 (IA (sub' other b))) := hE1.trans hX2
          have hu2' : hup hh u1 (IA (sub' one a)) u2 = none := hu2
          have hp2 : hup (hup hh u1 (IA (sub' one a))) u2 (IA (sub' other b)) u2 = some (IA (sub' other b)) := hup_self _ _ _
          have hp1 : hup (hup hh u1 (IA (sub' one a))) u2 (IA (sub' other b)) u1 = some (IA (sub' one a)) := hX2 _ _ (hup_self _ _ _)
          have hPR2 : PR (hup (hup hh u1 (IA (sub' one a))) u2 (IA (sub' other b))) P q ps := (hPR.ext hX1).ext hX2
          have hq2 : hup (hup hh u1 (IA (sub' one a))) u2 (IA (sub' other b)) q = some (100, fillO M 16) := hX2 _ _ (hX1 _ _ hq1)
          have hu1q : u1 ≠ q := fun z => by rw [z, hq1] at hu1; cases hu1
          have hu2q : u2 ≠ q := fun z => by rw [z, hX1 _ _ hq1] at hu2'; cases hu2'
          change WR p la e (rmD 3 35 96) s m args below meth c D cA B0 11 (comP B0 h (comL one other)) _ _ _ (hup (hup hh u1 (IA (sub' one a))) u2 (IA (sub' other b))) (2 + 2 * M.length + 1 + 1) (48 + a + b + tl one a + tl other b)
          generalize hup (hup hh u1 (IA (sub' one a))) u2 (IA (sub' other b)) = h3 at hE2 hp1 hp2 hPR2 hq2 ⊢
          have hidx := idxP_le (sub' one a, sub' other b) ps
          -- the place is found: from 132 on
          have found : ∀ (l : List (Nat × Value)), lsel l [10, 9, 8, 7, 6, 5, 4, 3, 2, 0, 1] = [(10, vI (idxP (sub' one a, sub' other b) ps)), (9, .ref u2), (8, .ref u1), (7, vI b), (6, vI a), (5, vI M.length), (4, vI ps.length), (3, .ref q), (2, .ref P), (0, .ref o), (1, .ref t)] → WR p la e (rmD 3 35 96) s m args below meth c D cA B0 11 (comP B0 h (comL one other)) 132 l [] h3 (2 + 2 * M.length + 1 + 1) (48 + a + b + tl one a + tl other b) := by
            intro l hl
            generalize hj : idxP (sub' one a, sub' other b) ps = j at hl hidx hF hci'
            obtain ⟨vs, hv1, hv2, hv3⟩ := PR.put (j := j) (q := (sub' one a, sub' other b)) ⟨hu1q, hu2q⟩ hPR2 hp1 hp2 hidx (by omega) (by omega) (fun z => by rw [← hj] at z ⊢; exact idxP_eq _ _ z)
            refine WS.sel [10, 9, 8, 7, 6, 5, 4, 3, 2, 0, 1] hl ?_
            repeat refine fst1_ok X (dk rfl) rfl ?_
            rw [nI_2, nI_mul]
            refine str_ok X (dk rfl) hv1 hp1 (by omega) (by omega) ?_
            repeat refine fst1_ok X (dk rfl) rfl ?_
            rw [nI_2, nI_mul, nI_1', nI_add]
            have hu2P := IA_ne hp2 hv1
            refine str_ok X (dk rfl) (hup_self _ _ _) (by rw [hup_ne _ _ hu2P]; exact hp2) (by rw [List.length_set]; omega) (by rw [List.length_set]; omega) ?_
            rw [hup_hup]
            repeat refine fst1_ok X (dk rfl) rfl ?_
            rw [nI_1', nI_add]
            refine mmax_ok X (by omega) (by omega) mlX10_48 (dk rfl) (by decide) (Nat.le_of_ble_eq_true rfl) (by show 2 + 2 * M.length + 1 + 1 ≤ 35; omega) (by show 48 + a + b + tl one a + tl other b ≤ 96; omega) ?_
            repeat refine fst1_ok X (dk rfl) rfl ?_
            have hPq2 : q ≠ P := Ne.symm hPq
            refine sti_ok X (dk rfl) (by rw [hup_ne _ _ hPq2]; exact hq2) (by rw [fillO_len (by omega)]; omega) (by rw [fillO_len (by omega)]; omega) ?_
            have hE5 : Ext h (hup (hup h3 P (105, (vs.set (2 * j) (.ref u1)).set (2 * j + 1) (.ref u2))) q (100, (fillO M 16).set M.length (.int (nI j)))) := (hE2.set hP _).set hq0 _
            repeat refine fst1_ok X (dk rfl) rfl ?_
            refine callS_ok (av := [.ref o, vI a]) (r := []) X E (c_end _ (hE5 _ _ ho) wo.lt (by omega) n2) lkX10_end mlX10_36 lsX10_end ⟨Nat.le_of_ble_eq_true rfl, Nat.le_of_ble_eq_true rfl⟩ ⟨by show 2 + 2 * M.length + 1 + 1 + 0 ≤ 35; omega, by show 48 + a + b + tl one a + tl other b + 0 ≤ 96; omega⟩ (Nat.le_of_ble_eq_true rfl) (dk rfl) ?_
            rintro v h6 ⟨rfl, hh6⟩
            subst hh6
            repeat refine fst1_ok X (dk rfl) rfl ?_
            refine callS_ok (av := [.ref t, vI b]) (r := []) X E (c_end _ (hE5 _ _ ht) wt.lt (by omega) n3) lkX10_end mlX10_36 lsX10_end ⟨Nat.le_of_ble_eq_true rfl, Nat.le_of_ble_eq_true rfl⟩ ⟨by show 2 + 2 * M.length + 1 + 1 + 0 + 0 ≤ 35; omega, by show 48 + a + b + tl one a + tl other b + 0 + 0 ≤ 96; omega⟩ (Nat.le_of_ble_eq_true rfl) (dk rfl) ?_
            rintro v h7 ⟨rfl, hh7⟩
            subst hh7
            repeat refine fst1_ok X (dk rfl) rfl ?_
            refine br_ok X (dk rfl) rfl (show ((186 : Nat) : Int) + (-163) = ((23 : Nat) : Int) from rfl) (fun _ => ?_) (fun q => absurd trivial q)
            have g1 : max ps.length (j + 1) = (if j < ps.length then ps else ps ++ [(sub' one a, sub' other b)]).length := by
              split
              · omega
              · simp; omega
            have g2 : Value.int (nI M.length + Int32.ofInt 1) = vI (M ++ [j]).length := congrArg Value.int (by rw [nI_1', nI_add, List.length_append, List.length_singleton])
            refine WS.sel (l' := [(7, vI (b + tl other b)), (6, vI (a + tl one a)), (5, vI (M ++ [j]).length), (4, vI (if j < ps.length then ps else ps ++ [(sub' one a, sub' other b)]).length), (3, .ref q), (2, .ref P), (0, .ref o), (1, .ref t)]) [7, 6, 5, 4, 3, 2, 0, 1] (by rw [← g1, ← g2]; rfl) ?_
            refine WS.widen (k' := 2 + 2 * (M ++ [j]).length) (n' := 48 + (a + tl one a) + (b + tl other b)) (by show 2 + 2 * M.length + 1 + 1 + 0 + 0 ≤ _; simp; omega) (by show 48 + a + b + tl one a + tl other b + 0 + 0 ≤ _; omega) ?_
            refine ih (a + tl one a) (b + tl other b) _ (M ++ [j]) nd' hci' (by omega) hF _ _ rfl hE5 ?_ ?_
            · obtain ⟨as, w1, w2, w3⟩ := hv3
              refine ⟨as, w1, by rw [hup_ne _ _ hPq]; exact w2, fun i z hz => ?_⟩
              obtain ⟨x1, x2, y1, y2, y3, y4, y5⟩ := w3 i z hz
              exact ⟨x1, x2, y1, y2, by rw [hup_ne _ _ y5.1]; exact y3, by rw [hup_ne _ _ y5.2]; exact y4, y5⟩
            · rw [hup_self, show Value.int (nI j) = vI j from rfl, fillO_set (by omega)]
          -- the search: at 89
          have search : ∀ (d nm : Nat), d = idxP (sub' one a, sub' other b) ps - nm → nm ≤ idxP (sub' one a, sub' other b) ps → ∀ (l : List (Nat × Value)), lsel l [10, 9, 8, 7, 6, 5, 4, 3, 2, 0, 1] = [(10, vI nm), (9, .ref u2), (8, .ref u1), (7, vI b), (6, vI a), (5, vI M.length), (4, vI ps.length), (3, .ref q), (2, .ref P), (0, .ref o), (1, .ref t)] → WR p la e (rmD 3 35 96) s m args below meth c D cA B0 11 (comP B0 h (comL one other)) 89 l [] h3 (2 + 2 * M.length + 1 + 1) (48 + a + b + tl one a + tl other b) := by
            obtain ⟨as, v1, v2, v3⟩ := hPR2
            intro d
            induction d with
            | zero =>
              intro nm hd hnm l hl
              have hnm2 : nm = idxP (sub' one a, sub' other b) ps := by omega
              refine WS.sel [10, 9, 8, 7, 6, 5, 4, 3, 2, 0, 1] hl ?_
              repeat refine fst1_ok X (dk rfl) rfl ?_
              refine br_ok X (dk rfl) rfl (show ((93 : Nat) : Int) + 39 = ((132 : Nat) : Int) from rfl) (fun c2 => ?_) (fun c2 => ?_)
              · exact found _ (by rw [hnm2]; rfl)
              · have hlt : nm < ps.length := nI_lt' (by omega) (by omega) c2
                have hpe := idxP_eq (sub' one a, sub' other b) ps (by omega)
                rw [← hnm2] at hpe
                obtain ⟨x1, x2, y1, y2, y3, y4, -⟩ := v3 nm _ hpe
                repeat refine fst1_ok X (dk rfl) rfl ?_
                rw [nI_2, nI_mul]
                refine ld5_ok X (dk rfl) v2 (filR_get y1) (by omega) ?_
                repeat refine fst1_ok X (dk rfl) rfl ?_
                refine callS_ok (av := [.ref x1, .ref u1]) (r := []) X E (c_same h3 y3 hp1 (by dsimp only; omega) (by omega) n8.lt n8.lt) lkX10_same mlX10_54 lsX10_same ⟨Nat.le_of_ble_eq_true rfl, Nat.le_of_ble_eq_true rfl⟩ ⟨by show 2 + 2 * M.length + 1 + 1 + 0 ≤ 35; omega, by show 48 + a + b + tl one a + tl other b + 0 ≤ 96; omega⟩ (Nat.le_of_ble_eq_true rfl) (dk rfl) ?_
                rintro v h6 ⟨rfl, rfl⟩
                rw [if_pos rfl]
                refine br_ok X (dk rfl) rfl (show ((107 : Nat) : Int) + 19 = ((126 : Nat) : Int) from rfl) (fun c3 => absurd c3 (by decide)) (fun c3 => ?_)
                repeat refine fst1_ok X (dk rfl) rfl ?_
                rw [nI_2, nI_mul, nI_1', nI_add]
                refine ld5_ok X (dk rfl) v2 (filR_get y2) (by omega) ?_
                repeat refine fst1_ok X (dk rfl) rfl ?_
                refine callS_ok (av := [.ref x2, .ref u2]) (r := []) X E (c_same h6 y4 hp2 (by dsimp only; omega) (by omega) n9.lt n9.lt) lkX10_same mlX10_54 lsX10_same ⟨Nat.le_of_ble_eq_true rfl, Nat.le_of_ble_eq_true rfl⟩ ⟨by show 2 + 2 * M.length + 1 + 1 + 0 + 0 ≤ 35; omega, by show 48 + a + b + tl one a + tl other b + 0 + 0 ≤ 96; omega⟩ (Nat.le_of_ble_eq_true rfl) (dk rfl) ?_
                rintro v h7 ⟨rfl, rfl⟩
                rw [if_pos rfl]
                refine br_ok X (dk rfl) rfl (show ((123 : Nat) : Int) + 9 = ((132 : Nat) : Int) from rfl) (fun c3 => ?_) (fun c3 => absurd (by decide) c3)
                exact found _ (by rw [hnm2]; rfl)
            | succ d ihs =>
              intro nm hd hnm l hl
              obtain ⟨z, hz, hzne⟩ := idxP_lt (sub' one a, sub' other b) ps nm (by omega)
              obtain ⟨x1, x2, y1, y2, y3, y4, -⟩ := v3 nm z hz
              have hzw := h7 z (List.mem_of_getElem? hz)
              have f2 : Value.int (nI nm + Int32.ofInt 1) = vI (nm + 1) := congrArg Value.int (by rw [nI_1', nI_add])
              have again : ∀ (l : List (Nat × Value)), lsel l [10, 9, 8, 7, 6, 5, 4, 3, 2, 0, 1] = [(10, vI nm), (9, .ref u2), (8, .ref u1), (7, vI b), (6, vI a), (5, vI M.length), (4, vI ps.length), (3, .ref q), (2, .ref P), (0, .ref o), (1, .ref t)] → WR p la e (rmD 3 35 96) s m args below meth c D cA B0 11 (comP B0 h (comL one other)) 126 l [] h3 (2 + 2 * M.length + 1 + 1) (48 + a + b + tl one a + tl other b) := by
                intro l hl
                refine WS.sel [10, 9, 8, 7, 6, 5, 4, 3, 2, 0, 1] hl ?_
                repeat refine fst1_ok X (dk rfl) rfl ?_
                refine br_ok X (dk rfl) rfl (show ((129 : Nat) : Int) + (-40) = ((89 : Nat) : Int) from rfl) (fun _ => ?_) (fun q => absurd trivial q)
                refine WS.sel (l' := [(10, vI (nm + 1)), (9, .ref u2), (8, .ref u1), (7, vI b), (6, vI a), (5, vI M.length), (4, vI ps.length), (3, .ref q), (2, .ref P), (0, .ref o), (1, .ref t)]) [10, 9, 8, 7, 6, 5, 4, 3, 2, 0, 1] (by rw [← f2]; rfl) ?_
                exact ihs (nm + 1) (by omega) (by omega) _ rfl
              refine WS.sel [10, 9, 8, 7, 6, 5, 4, 3, 2, 0, 1] hl ?_
              repeat refine fst1_ok X (dk rfl) rfl ?_
              refine br_ok X (dk rfl) rfl (show ((93 : Nat) : Int) + 39 = ((132 : Nat) : Int) from rfl) (fun c2 => absurd c2 (nI_ge (by omega) (by omega))) (fun c2 => ?_)
              repeat refine fst1_ok X (dk rfl) rfl ?_
              rw [nI_2, nI_mul]
              refine ld5_ok X (dk rfl) v2 (filR_get y1) (by omega) ?_
              repeat refine fst1_ok X (dk rfl) rfl ?_
              refine callS_ok (av := [.ref x1, .ref u1]) (r := []) X E (c_same h3 y3 hp1 (by omega) (by omega) hzw.1.lt n8.lt) lkX10_same mlX10_54 lsX10_same ⟨Nat.le_of_ble_eq_true rfl, Nat.le_of_ble_eq_true rfl⟩ ⟨by show 2 + 2 * M.length + 1 + 1 + 0 ≤ 35; omega, by show 48 + a + b + tl one a + tl other b + 0 ≤ 96; omega⟩ (Nat.le_of_ble_eq_true rfl) (dk rfl) ?_
              rintro v h6 ⟨rfl, rfl⟩
              by_cases hz1 : z.1 = sub' one a
              · rw [if_pos hz1]
                refine br_ok X (dk rfl) rfl (show ((107 : Nat) : Int) + 19 = ((126 : Nat) : Int) from rfl) (fun c3 => absurd c3 (by decide)) (fun c3 => ?_)
                repeat refine fst1_ok X (dk rfl) rfl ?_
                rw [nI_2, nI_mul, nI_1', nI_add]
                refine ld5_ok X (dk rfl) v2 (filR_get y2) (by omega) ?_
                repeat refine fst1_ok X (dk rfl) rfl ?_
                refine callS_ok (av := [.ref x2, .ref u2]) (r := []) X E (c_same h6 y4 hp2 (by omega) (by omega) hzw.2.2.1.lt n9.lt) lkX10_same mlX10_54 lsX10_same ⟨Nat.le_of_ble_eq_true rfl, Nat.le_of_ble_eq_true rfl⟩ ⟨by show 2 + 2 * M.length + 1 + 1 + 0 + 0 ≤ 35; omega, by show 48 + a + b + tl one a + tl other b + 0 + 0 ≤ 96; omega⟩ (Nat.le_of_ble_eq_true rfl) (dk rfl) ?_
                rintro v h7' ⟨rfl, rfl⟩
                have hz2 : ¬ z.2 = sub' other b := fun w => hzne (Prod.ext hz1 w)
                rw [if_neg hz2]
                refine br_ok X (dk rfl) rfl (show ((123 : Nat) : Int) + 9 = ((132 : Nat) : Int) from rfl) (fun c3 => absurd rfl c3) (fun c3 => ?_)
                exact again _ rfl
              · rw [if_neg hz1]
                refine br_ok X (dk rfl) rfl (show ((107 : Nat) : Int) + 19 = ((126 : Nat) : Int) from rfl) (fun c3 => ?_) (fun c3 => absurd rfl c3)
                exact again _ rfl
          iterate 3 refine fst1_ok X (dk rfl) rfl ?_
          exact search _ 0 rfl (Nat.zero_le _) _ rfl
        refine br_ok X (dk rfl) rfl (show ((38 : Nat) : Int) + 32 = ((70 : Nat) : Int) from rfl) (fun c2 => ?_) (fun c2 => ?_)
        · exact named (fun z => c2 (by rw [z.1])) _ rfl
        · have hxy : x = y := (nI_eq (by omega) (by omega)).mp (Decidable.not_not.mp c2)
          repeat refine fst1_ok X (dk rfl) rfl ?_
          refine ald_ok X (Or.inl ⟨rfl, rfl⟩) (dk rfl) (hE _ _ ho) (inA_nI (by omega) (IA_get hx1)) ?_
          repeat refine fst1_ok X (dk rfl) rfl ?_
          refine br_ok X (dk rfl) rfl (show ((47 : Nat) : Int) + 23 = ((70 : Nat) : Int) from rfl) (fun c3 => ?_) (fun c3 => ?_)
          · rw [nI_10] at c3
            have hlt : x < 10 := (nI_ltI (by omega) (by omega)).mp c3
            exact named (fun z => by omega) _ rfl
          · rw [nI_10] at c3
            have hge : 10 ≤ x := by
              rcases Nat.lt_or_ge x 10 with z | z
              · exact absurd ((nI_ltI (by omega) (by omega)).mpr z) c3
              · exact z
            subst hxy
            rw [if_pos ⟨rfl, hge⟩] at hF
            obtain ⟨nd2, hci2⟩ := CI_head hci hx1 hy1 hge hx18
            repeat refine fst1_ok X (dk rfl) rfl ?_
            refine ald_ok X (Or.inl ⟨rfl, rfl⟩) (dk rfl) (hE _ _ ho) (inA_nI (by omega) (IA_get hx1)) ?_
            refine sti_ok X (dk rfl) hq1 (by rw [fillO_len (by omega)]; omega) (by rw [fillO_len (by omega)]; omega) ?_
            repeat refine fst1_ok X (dk rfl) rfl ?_
            refine br_ok X (dk rfl) rfl (show ((67 : Nat) : Int) + (-44) = ((23 : Nat) : Int) from rfl) (fun _ => ?_) (fun q => absurd trivial q)
            have g1 : ∀ z : Nat, Value.int (nI z + Int32.ofInt 1) = vI (z + 1) := fun z => congrArg Value.int (by rw [nI_1', nI_add])
            have g2 : (M ++ [x]).length = M.length + 1 := by simp
            refine WS.sel (l' := [(7, vI (b + 1)), (6, vI (a + 1)), (5, vI (M ++ [x]).length), (4, vI ps.length), (3, .ref q), (2, .ref P), (0, .ref o), (1, .ref t)]) [7, 6, 5, 4, 3, 2, 0, 1] (by rw [g2, ← g1, ← g1, ← g1]; rfl) ?_
            refine WS.widen (k' := 2 + 2 * (M ++ [x]).length) (n' := 48 + (a + 1) + (b + 1)) (by rw [g2]; omega) (by omega) ?_
            refine ih (a + 1) (b + 1) ps (M ++ [x]) nd2 hci2 (by omega) hF _ _ rfl (hE.set hq0 _) ?_ (by rw [hup_self, show Value.int (nI x) = vI x from rfl, fillO_set (by omega)])
            obtain ⟨as, w1, w2, w3⟩ := hPR
            refine ⟨as, w1, by rw [hup_ne _ _ hPq]; exact w2, fun i z hz => ?_⟩
            obtain ⟨x1, x2, y1, y2, y3, y4, y5⟩ := w3 i z hz
            exact ⟨x1, x2, y1, y2, by rw [hup_ne _ _ y5.1]; exact y3, by rw [hup_ne _ _ y5.2]; exact y4, y5⟩
      · have hal : a = one.length := by have := hci.2.2.1; omega
        subst hal
        unfold comF at hF
        rw [List.getElem?_eq_none (Nat.le_refl _)] at hF
        exact done' b ps M nd hci hF hh l hl hE hq1
  iterate 9 refine fst1_ok X (dk rfl) rfl ?_
  refine loop 16 0 0 [] [] 1 (CI_0 wo wt) (by omega) rfl _ _ rfl ((Ext.new hP _).trans (Ext.new hq _)) ⟨[], rfl, by rw [hup_ne _ _ hPq, hup_self, filR_0], fun i z hz => by simp at hz⟩ ?_
  rw [hup_self]
  simp [fillO]
end M15
end U32m14
section U33m15
/-! matched -/
def matchF (onto : List Nat) : List Nat → Nat → List (Option (List Nat)) → Option (List (Option (List Nat)))
  | [], _, told => some told
  | x :: r, b, told => if onto.length ≤ b then none else if 10 ≤ x then (if onto[b]? = some x then matchF onto r (b + 1) told else none) else
      match told.getD x none with
      | some t => if t = sub' onto b then matchF onto r (b + tl onto b) (told.set x (some (sub' onto b))) else none
      | none => matchF onto r (b + tl onto b) (told.set x (some (sub' onto b)))
def restT (told : List (Option (List Nat))) : List (List Nat) := (List.range 8).map (fun k => (told.getD k none).getD [k])
def matchL (one onto : List Nat) : Option (List (List Nat)) := (matchF onto one 0 (List.replicate 8 none)).map restT
/-- what is told so far -/
def TO (h : AH) (T : Nat) (told : List (Option (List Nat))) : Prop := ∃ os : List (Option Nat), os.length = 8 ∧ told.length = 8 ∧ h T = some (105, os.map va_rf) ∧
  (∀ (k : Nat) (r : List Nat), told[k]? = some (some r) → ∃ a, os[k]? = some (some a) ∧ h a = some (IA r)) ∧ ∀ k : Nat, told[k]? = some none → os[k]? = some none
theorem TO.ext {h h' : AH} {T : Nat} {told : List (Option (List Nat))} (H : TO h T told) (E : Ext h h') : TO h' T told := by
  obtain ⟨os, h1, h2, h3, h4, h5⟩ := H
  refine ⟨os, h1, h2, E _ _ h3, fun k r hk => ?_, h5⟩
  obtain ⟨a, e1, e2⟩ := h4 k r hk
  exact ⟨a, e1, E _ _ e2⟩
theorem TO.put {h : AH} {T a x : Nat} {told : List (Option (List Nat))} {r : List Nat} (H : TO h T told) (ha : h a = some (IA r)) (hx : x < 8) :
    ∃ vs, h T = some (105, vs) ∧ vs.length = 8 ∧ TO (hup h T (105, vs.set x (.ref a))) T (told.set x (some r)) := by
  obtain ⟨os, h1, h2, h3, h4, h5⟩ := H
  refine ⟨_, h3, by rw [List.length_map, h1], os.set x (some a), by simp [h1], by simp [h2], ?_, fun k r' hk => ?_, fun k hk => ?_⟩
  · rw [hup_self, List.map_set]
    rfl
  · by_cases hkx : k = x
    · subst hkx
      rw [List.getElem?_set_self (by omega)] at hk
      cases hk
      exact ⟨a, List.getElem?_set_self (by omega), by rw [hup_ne _ _ (IA_ne ha h3)]; exact ha⟩
    · rw [List.getElem?_set_ne (Ne.symm hkx)] at hk
      obtain ⟨a', e1, e2⟩ := h4 k r' hk
      exact ⟨a', by rw [List.getElem?_set_ne (Ne.symm hkx)]; exact e1, by rw [hup_ne _ _ (IA_ne e2 h3)]; exact e2⟩
  · by_cases hkx : k = x
    · subst hkx
      rw [List.getElem?_set_self (by omega)] at hk
      cases hk
    · rw [List.getElem?_set_ne (Ne.symm hkx)] at hk ⊢
      exact h5 k hk
/-- what is told is terms -/
def TT (told : List (Option (List Nat))) : Prop := told.length = 8 ∧ ∀ r, some r ∈ told → TW r ∧ r.length ≤ 16
theorem sub_ok {xs : List Nat} (h : TW xs) (hl : xs.length ≤ 16) {b : Nat} (hb : b < xs.length) : endL 1 (xs.drop b) = some (tl xs b) ∧ 0 < tl xs b ∧ b + tl xs b ≤ xs.length ∧ TW (sub' xs b) ∧ (sub' xs b).length = tl xs b := by
  obtain ⟨k, e1, e2, e3, e4⟩ := h.at hb
  have t1 : tl xs b = k := by unfold tl; rw [e1]; rfl
  refine ⟨by rw [t1]; exact e1, by omega, by omega, by unfold sub'; rw [t1]; exact e4, ?_⟩
  unfold sub'
  rw [t1]
  simp
  omega
theorem TT.set {told : List (Option (List Nat))} (h : TT told) {x : Nat} {r : List Nat} (hr : TW r ∧ r.length ≤ 16) : TT (told.set x (some r)) := by
  refine ⟨by simp [h.1], fun r' hr' => ?_⟩
  rcases List.mem_or_eq_of_mem_set hr' with q | q
  · exact h.2 r' q
  · cases q; exact hr
theorem restT_AO {told : List (Option (List Nat))} (h : TT told) : AO (restT told) := by
  refine ⟨by simp [restT], fun r hr => ?_⟩
  unfold restT at hr
  obtain ⟨k, hk, rfl⟩ := List.mem_map.mp hr
  have hk8 : k < 8 := List.mem_range.mp hk
  have hkl : k < told.length := by rw [h.1]; exact hk8
  rw [List.getD_eq_getElem?_getD, List.getElem?_eq_getElem hkl]
  cases hz : told[k] with
  | none => exact ⟨TW.name hk8, by simp⟩
  | some r => exact h.2 r (by rw [← hz]; exact List.getElem_mem hkl)
/-- null, or a new array of new rows -/
def optR (B0 : Nat) (h : AH) (o : Option (List (List Nat))) (v : Option Value) (h' : AH) : Prop := match o with
  | none => v = some .null ∧ Ext h h'
  | some rows => newR B0 h rows v h'
section M16
variable {la : Launch} {D : va_G} {cA : Nat → ClassId} {B0 pa : Nat}
set_option maxHeartbeats 16000000 in
theorem c_matched (h : AH) {o t : Nat} {one onto : List Nat} (ho : h o = some (IA one)) (ht : h t = some (IA onto)) (wo : ∀ x ∈ one, okL x) (wt : TW onto) (l1 : one.length ≤ 16) (l2 : onto.length ≤ 16) : CT la D cA B0 pa yX10_matched cX10_matched 9 (some (.array (.array .int))) (rmD 3 25 32) [.ref o, .ref t] h (fun v h' => optR B0 h (matchL one onto) v h' ∧ ∀ rows, matchL one onto = some rows → AO rows) := by
  refine CT_of (by decide +kernel) (Nat.le_of_ble_eq_true rfl) ?_
  intro p e s m args below meth c X E hr hlk hnm
  have dk : ∀ {pc : Nat} {q : Instr × Nat}, lkd DX10_matched pc = some q → decode cX10_matched pc = .ok q := lkd_ok DX10_matched_ok
  have lo : (one.map vI).length = one.length := List.length_map _
  have lt' : (onto.map vI).length = onto.length := List.length_map _
  repeat refine fst1_ok X (dk rfl) rfl ?_
  refine newR_ok (N := 8) (kd := 105) X E (by decide) cl10_9 (by decide) (dk rfl) (by decide) (by decide) (fun T hT hBT => ?_)
  have hoT : o ≠ T := fun z => by rw [z, hT] at ho; cases ho
  repeat refine fst1_ok X (dk rfl) rfl ?_
  refine alen_ok (kd := 100) (vs := one.map vI) X (by decide) (dk rfl) (by rw [hup_ne _ _ hoT]; exact ho) ?_
  rw [lo]
  -- the names that are told of nothing: from 113 on
  have fill : ∀ (d j : Nat), d = 8 - j → j ≤ 8 → ∀ (told : List (Option (List Nat))), TT told → (∀ i, i < j → ∃ r, told[i]? = some (some r)) → matchL one onto = some (restT told) → ∀ (hh : AH) (l : List (Nat × Value)), lsel l [4, 2] = [(4, vI j), (2, .ref T)] → Ext h hh → TO hh T told → WR p la e (rmD 3 25 32) s m args below meth c D cA B0 9 (fun v h' => optR B0 h (matchL one onto) v h' ∧ ∀ rows, matchL one onto = some rows → AO rows) 113 l [] hh (17 + j) (24 + j) := by
    intro d
    induction d with
    | zero =>
      intro j hd hj told hTT hall hF hh l hl hE hTO
      have hj2 : j = 8 := by omega
      subst hj2
      refine WS.sel [4, 2] hl ?_
      repeat refine fst1_ok X (dk rfl) rfl ?_
      refine br_ok X (dk rfl) rfl (show ((117 : Nat) : Int) + 25 = ((142 : Nat) : Int) from rfl) (fun c1 => ?_) (fun c1 => absurd (by decide) c1)
      repeat refine fst1_ok X (dk rfl) rfl ?_
      refine reta_ok X hr hlk (Or.inr ⟨_, rfl⟩) (Or.inr ⟨_, rfl⟩) (dk rfl) ⟨?_, fun rows hrows => ?_⟩ (Nat.le_refl _) (Nat.le_refl _)
      · rw [hF]
        obtain ⟨os, h1, h2, h3, h4, h5⟩ := hTO
        have hos : ∀ i, i < 8 → ∃ r a, told[i]? = some (some r) ∧ os[i]? = some (some a) ∧ hh a = some (IA r) := by
          intro i hi
          obtain ⟨r, hr'⟩ := hall i hi
          obtain ⟨a, e1, e2⟩ := h4 i r hr'
          exact ⟨r, a, hr', e1, e2⟩
        have hmap : os.map va_rf = (os.map (fun z => z.getD 0)).map Value.ref := by
          rw [List.map_map]
          apply List.map_congr_left
          intro z hz
          obtain ⟨i, hi⟩ := List.getElem?_of_mem hz
          have hi8 : i < 8 := by rw [← h1]; exact (List.getElem?_eq_some_iff.mp hi).1
          obtain ⟨r, a, -, e1, -⟩ := hos i hi8
          cases hi.symm.trans e1
          rfl
        refine ⟨T, rfl, hT, hBT, hE, os.map (fun z => z.getD 0), by simp [restT, h1], by rw [h3, hmap], fun k a r hk hr' => ?_⟩
        have hk8 : k < 8 := by
          have := (List.getElem?_eq_some_iff.mp hk).1
          rw [List.length_map, h1] at this
          exact this
        obtain ⟨r0, a0, e0, e1, e2⟩ := hos k hk8
        rw [List.getElem?_map, e1] at hk
        cases hk
        have : r = r0 := by
          unfold restT at hr'
          rw [List.getElem?_map, List.getElem?_range hk8] at hr'
          simp only [Option.map_some, Option.some.injEq] at hr'
          rw [← hr', List.getD_eq_getElem?_getD, e0]
          rfl
        rw [this]
        exact e2
      · rw [hF] at hrows
        cases hrows
        exact restT_AO hTT
    | succ d ih =>
      intro j hd hj told hTT hall hF hh l hl hE hTO
      have hTO' := hTO
      obtain ⟨os, h1, h2, h3, h4, h5⟩ := hTO'
      have f2 : Value.int (nI j + Int32.ofInt 1) = vI (j + 1) := congrArg Value.int (by rw [nI_1', nI_add])
      obtain ⟨w, hw⟩ : ∃ w, told[j]? = some w := ⟨told[j]'(by omega), by simp⟩
      refine WS.sel [4, 2] hl ?_
      repeat refine fst1_ok X (dk rfl) rfl ?_
      refine br_ok X (dk rfl) rfl (show ((117 : Nat) : Int) + 25 = ((142 : Nat) : Int) from rfl) (fun c1 => absurd c1 (nI_ge (b := 8) (by omega) (by omega))) (fun c1 => ?_)
      repeat refine fst1_ok X (dk rfl) rfl ?_
      cases w with
      | some r =>
        obtain ⟨a, e1, e2⟩ := h4 j r hw
        refine ald_ok X (Or.inr (Or.inr ⟨rfl, by decide⟩)) (dk rfl) h3 (inA_nI (v := .ref a) (by omega) (by rw [List.getElem?_map, e1]; rfl)) ?_
        refine br_ok X (dk rfl) rfl (show ((124 : Nat) : Int) + 12 = ((136 : Nat) : Int) from rfl) (fun c2 => ?_) (fun c2 => absurd trivial c2)
        repeat refine fst1_ok X (dk rfl) rfl ?_
        refine br_ok X (dk rfl) rfl (show ((139 : Nat) : Int) + (-26) = ((113 : Nat) : Int) from rfl) (fun _ => ?_) (fun q => absurd trivial q)
        refine WS.sel (l' := [(4, vI (j + 1)), (2, .ref T)]) [4, 2] (by rw [← f2]; rfl) ?_
        refine WS.widen (k' := 17 + (j + 1)) (n' := 24 + (j + 1)) (by omega) (by omega) ?_
        refine ih (j + 1) (by omega) (by omega) told hTT (fun i hi => ?_) hF hh _ rfl hE hTO
        rcases Nat.lt_or_ge i j with q | q
        · exact hall i q
        · exact ⟨r, by rw [show i = j by omega]; exact hw⟩
      | none =>
        have e1 := h5 j hw
        refine ald_ok X (Or.inr (Or.inr ⟨rfl, by decide⟩)) (dk rfl) h3 (inA_nI (v := .null) (by omega) (by rw [List.getElem?_map, e1]; rfl)) ?_
        refine br_ok X (dk rfl) rfl (show ((124 : Nat) : Int) + 12 = ((136 : Nat) : Int) from rfl) (fun c2 => absurd c2 (fun z => z)) (fun c2 => ?_)
        repeat refine fst1_ok X (dk rfl) rfl ?_
        refine callS_ok (av := [vI j]) (r := [vI j, .ref T]) X E (c_row hh j) lkX10_row mlX10_20 lsX10_row ⟨Nat.le_of_ble_eq_true rfl, Nat.le_of_ble_eq_true rfl⟩ ⟨by show 17 + j + 1 ≤ 25; omega, by show 24 + j + 1 ≤ 32; omega⟩ (Nat.le_of_ble_eq_true rfl) (dk rfl) ?_
        rintro v h2 ⟨u, rfl, hu, hBu, rfl⟩
        have hX := Ext.new hu (IA [j])
        obtain ⟨vs, g1, g2, g3⟩ := (hTO.ext hX).put (x := j) (hup_self hh u (IA [j])) (by omega)
        refine str_ok X (dk rfl) g1 (hup_self _ _ _) (by omega) (by omega) ?_
        repeat refine fst1_ok X (dk rfl) rfl ?_
        refine br_ok X (dk rfl) rfl (show ((139 : Nat) : Int) + (-26) = ((113 : Nat) : Int) from rfl) (fun _ => ?_) (fun q => absurd trivial q)
        refine WS.sel (l' := [(4, vI (j + 1)), (2, .ref T)]) [4, 2] (by rw [← f2]; rfl) ?_
        refine ih (j + 1) (by omega) (by omega) (told.set j (some [j])) (hTT.set ⟨TW.name (by omega), by simp⟩) (fun i hi => ?_) ?_ _ _ rfl ((hE.trans hX).set hT _) g3
        · rcases Nat.lt_or_ge i j with q | q
          · rw [List.getElem?_set_ne (by omega)]; exact hall i q
          · exact ⟨[j], by rw [show i = j by omega, List.getElem?_set_self (by omega)]⟩
        · rw [hF]
          congr 1
          unfold restT
          apply List.map_congr_left
          intro k hk
          rw [List.getD_eq_getElem?_getD, List.getD_eq_getElem?_getD]
          by_cases hkj : k = j
          · subst hkj
            rw [hw, List.getElem?_set_self (by omega)]
            rfl
          · rw [List.getElem?_set_ne (Ne.symm hkj)]
  -- the letters: from 19 on
  have loop : ∀ (d j : Nat), d = one.length - j → j ≤ one.length → ∀ (b : Nat) (told : List (Option (List Nat))), b ≤ onto.length → TT told → matchL one onto = (matchF onto (one.drop j) b told).map restT → ∀ (hh : AH) (l : List (Nat × Value)), lsel l [6, 5, 4, 3, 2, 1] = [(6, vI j), (5, vI one.length), (4, .ref o), (3, vI b), (2, .ref T), (1, .ref t)] → Ext h hh → TO hh T told →
      WR p la e (rmD 3 25 32) s m args below meth c D cA B0 9 (fun v h' => optR B0 h (matchL one onto) v h' ∧ ∀ rows, matchL one onto = some rows → AO rows) 19 l [] hh (1 + j) (8 + b) := by
    intro d
    induction d with
    | zero =>
      intro j hd hj b told hb hTT hF hh l hl hE hTO
      have hj2 : j = one.length := by omega
      subst hj2
      rw [List.drop_length] at hF
      refine WS.sel [6, 5, 4, 3, 2, 1] hl ?_
      repeat refine fst1_ok X (dk rfl) rfl ?_
      refine br_ok X (dk rfl) rfl (show ((23 : Nat) : Int) + 87 = ((110 : Nat) : Int) from rfl) (fun c1 => ?_) (fun c1 => absurd (Int32.le_refl _) c1)
      iterate 2 refine fst1_ok X (dk rfl) rfl ?_
      refine WS.widen (k' := 17 + 0) (n' := 24 + 0) (by omega) (by omega) ?_
      exact fill 8 0 rfl (by omega) told hTT (fun i hi => by omega) hF hh _ rfl hE hTO
    | succ d ih =>
      intro j hd hj b told hb hTT hF hh l hl hE hTO
      obtain ⟨x, hx1⟩ : ∃ x, one[j]? = some x := ⟨one[j]'(by omega), by simp⟩
      have hok := wo x (List.mem_of_getElem? hx1)
      have hx18 := hok.lt
      rw [drop_cons hx1] at hF
      unfold matchF at hF
      have f2 : Value.int (nI j + Int32.ofInt 1) = vI (j + 1) := congrArg Value.int (by rw [nI_1', nI_add])
      -- the answer null
      have null' : matchL one onto = none → ∀ (pc : Nat) (l : List (Nat × Value)) (k n : Nat) (h4 : AH), lkd DX10_matched pc = some (.aconst_null, 1) → lkd DX10_matched (pc + 1) = some (.areturn, 1) → Ext h h4 → k ≤ 25 → n ≤ 32 → WR p la e (rmD 3 25 32) s m args below meth c D cA B0 9 (fun v h' => optR B0 h (matchL one onto) v h' ∧ ∀ rows, matchL one onto = some rows → AO rows) pc l [] h4 k n := by
        intro hN pc l k n h4 d1 d2 hE4 hk hn
        refine fst1_ok (l' := l) (st' := [.null]) X (dk d1) rfl ?_
        refine reta_ok X hr hlk (Or.inr ⟨_, rfl⟩) (Or.inl rfl) (dk d2) ⟨?_, fun rows hrows => by rw [hN] at hrows; cases hrows⟩ hk hn
        rw [hN]
        exact ⟨rfl, hE4⟩
      refine WS.sel [6, 5, 4, 3, 2, 1] hl ?_
      repeat refine fst1_ok X (dk rfl) rfl ?_
      refine br_ok X (dk rfl) rfl (show ((23 : Nat) : Int) + 87 = ((110 : Nat) : Int) from rfl) (fun c1 => absurd c1 (nI_ge (by omega) (by omega))) (fun c1 => ?_)
      repeat refine fst1_ok X (dk rfl) rfl ?_
      refine ald_ok X (Or.inl ⟨rfl, rfl⟩) (dk rfl) (hE _ _ ho) (inA_nI (by omega) (IA_get hx1)) ?_
      repeat refine fst1_ok X (dk rfl) rfl ?_
      refine alen_ok X (by decide) (dk rfl) (hE _ _ ht) ?_
      rw [lt']
      refine br_ok X (dk rfl) rfl (show ((36 : Nat) : Int) + 5 = ((41 : Nat) : Int) from rfl) (fun c2 => ?_) (fun c2 => ?_)
      · have hbl : b < onto.length := (nI_ltI (by omega) (by omega)).mp c2
        rw [if_neg (by omega)] at hF
        obtain ⟨g1, g2, g3, g4, g5⟩ := sub_ok wt l2 hbl
        obtain ⟨y, hy1⟩ : ∃ y, onto[b]? = some y := ⟨onto[b]'hbl, by simp⟩
        have hy18 := (wt.2 y (List.mem_of_getElem? hy1)).lt
        repeat refine fst1_ok X (dk rfl) rfl ?_
        refine br_ok X (dk rfl) rfl (show ((45 : Nat) : Int) + 19 = ((64 : Nat) : Int) from rfl) (fun c3 => ?_) (fun c3 => ?_)
        · rw [nI_10] at c3
          have hx10 : x < 10 := (nI_ltI (by omega) (by omega)).mp c3
          have hx8 : x < 8 := by rcases hok with q | q <;> omega
          rw [if_neg (by omega)] at hF
          repeat refine fst1_ok X (dk rfl) rfl ?_
          refine callS_ok (av := [.ref t, vI b]) (r := []) X E (c_at hh (hE _ _ ht) wt.lt (by omega) g1) lkX10_at mlX10_74 lsX10_at ⟨Nat.le_of_ble_eq_true rfl, Nat.le_of_ble_eq_true rfl⟩ ⟨by show 1 + j + 1 ≤ 25; omega, by show 8 + b + tl onto b ≤ 32; omega⟩ (Nat.le_of_ble_eq_true rfl) (dk rfl) ?_
          rintro v h1 ⟨u, rfl, hu, hBu, rfl⟩
          have hX := Ext.new hu (IA (sub' onto b))
          have hE1 : Ext h (hup hh u (IA (sub' onto b))) := hE.trans hX
          have hTO1 : TO (hup hh u (IA (sub' onto b))) T told := hTO.ext hX
          have hu1 : hup hh u (IA (sub' onto b)) u = some (IA (sub' onto b)) := hup_self _ _ _
          change WR p la e (rmD 3 25 32) s m args below meth c D cA B0 9 (fun v h' => optR B0 h (matchL one onto) v h' ∧ ∀ rows, matchL one onto = some rows → AO rows) _ _ _ (hup hh u (IA (sub' onto b))) (1 + j + 1) (8 + b + tl onto b)
          generalize hup hh u (IA (sub' onto b)) = h1 at hE1 hTO1 hu1 ⊢
          -- told[letter] = its; b = end(onto, b): from 92 on
          have put' : matchL one onto = (matchF onto (one.drop (j + 1)) (b + tl onto b) (told.set x (some (sub' onto b)))).map restT → ∀ (l : List (Nat × Value)), lsel l [8, 7, 6, 5, 4, 3, 2, 1] = [(8, .ref u), (7, vI x), (6, vI j), (5, vI one.length), (4, .ref o), (3, vI b), (2, .ref T), (1, .ref t)] → WR p la e (rmD 3 25 32) s m args below meth c D cA B0 9 (fun v h' => optR B0 h (matchL one onto) v h' ∧ ∀ rows, matchL one onto = some rows → AO rows) 92 l [] h1 (1 + j + 1) (8 + b + tl onto b) := by
            intro hF2 l hl
            obtain ⟨vs, w1, w2, w3⟩ := hTO1.put (x := x) hu1 hx8
            refine WS.sel [8, 7, 6, 5, 4, 3, 2, 1] hl ?_
            repeat refine fst1_ok X (dk rfl) rfl ?_
            refine str_ok X (dk rfl) w1 hu1 (by omega) (by omega) ?_
            have hE2 : Ext h (hup h1 T (105, vs.set x (.ref u))) := hE1.set hT _
            repeat refine fst1_ok X (dk rfl) rfl ?_
            refine callS_ok (av := [.ref t, vI b]) (r := []) X E (c_end _ (hE2 _ _ ht) wt.lt (by omega) g1) lkX10_end mlX10_36 lsX10_end ⟨Nat.le_of_ble_eq_true rfl, Nat.le_of_ble_eq_true rfl⟩ ⟨by show 1 + j + 1 + 0 ≤ 25; omega, by show 8 + b + tl onto b + 0 ≤ 32; omega⟩ (Nat.le_of_ble_eq_true rfl) (dk rfl) ?_
            rintro v h6 ⟨rfl, hh6⟩
            subst hh6
            repeat refine fst1_ok X (dk rfl) rfl ?_
            refine br_ok X (dk rfl) rfl (show ((107 : Nat) : Int) + (-88) = ((19 : Nat) : Int) from rfl) (fun _ => ?_) (fun q => absurd trivial q)
            refine WS.sel (l' := [(6, vI (j + 1)), (5, vI one.length), (4, .ref o), (3, vI (b + tl onto b)), (2, .ref T), (1, .ref t)]) [6, 5, 4, 3, 2, 1] (by rw [← f2]; rfl) ?_
            refine WS.widen (k' := 1 + (j + 1)) (n' := 8 + (b + tl onto b)) (by show 1 + j + 1 + 0 ≤ _; omega) (by show 8 + b + tl onto b + 0 ≤ _; omega) ?_
            exact ih (j + 1) (by omega) (by omega) (b + tl onto b) _ (by omega) (hTT.set ⟨g4, by omega⟩) hF2 _ _ rfl hE2 w3
          have hTO2 := hTO1
          obtain ⟨os, t1, t2, t3, t4, t5⟩ := hTO2
          obtain ⟨w, hw⟩ : ∃ w, told[x]? = some w := ⟨told[x]'(by omega), by simp⟩
          rw [List.getD_eq_getElem?_getD, hw] at hF
          repeat refine fst1_ok X (dk rfl) rfl ?_
          cases w with
          | none =>
            simp only [Option.getD_some] at hF
            refine ald_ok X (Or.inr (Or.inr ⟨rfl, by decide⟩)) (dk rfl) t3 (inA_nI (v := .null) (by omega) (by rw [List.getElem?_map, t5 x hw]; rfl)) ?_
            refine br_ok X (dk rfl) rfl (show ((75 : Nat) : Int) + 17 = ((92 : Nat) : Int) from rfl) (fun c4 => ?_) (fun c4 => absurd trivial c4)
            exact put' hF _ rfl
          | some r =>
            simp only [Option.getD_some] at hF
            obtain ⟨a, e1, e2⟩ := t4 x r hw
            have hrr := hTT.2 r (List.mem_of_getElem? hw)
            refine ald_ok X (Or.inr (Or.inr ⟨rfl, by decide⟩)) (dk rfl) t3 (inA_nI (v := .ref a) (by omega) (by rw [List.getElem?_map, e1]; rfl)) ?_
            refine br_ok X (dk rfl) rfl (show ((75 : Nat) : Int) + 17 = ((92 : Nat) : Int) from rfl) (fun c4 => absurd c4 (fun z => z)) (fun c4 => ?_)
            repeat refine fst1_ok X (dk rfl) rfl ?_
            refine ald_ok X (Or.inr (Or.inr ⟨rfl, by decide⟩)) (dk rfl) t3 (inA_nI (v := .ref a) (by omega) (by rw [List.getElem?_map, e1]; rfl)) ?_
            repeat refine fst1_ok X (dk rfl) rfl ?_
            refine callS_ok (av := [.ref a, .ref u]) (r := []) X E (c_same h1 e2 hu1 (by omega) (by omega) hrr.1.lt g4.lt) lkX10_same mlX10_54 lsX10_same ⟨Nat.le_of_ble_eq_true rfl, Nat.le_of_ble_eq_true rfl⟩ ⟨by show 1 + j + 1 + 0 ≤ 25; omega, by show 8 + b + tl onto b + 0 ≤ 32; omega⟩ (Nat.le_of_ble_eq_true rfl) (dk rfl) ?_
            rintro v h6 ⟨rfl, hh6⟩
            subst hh6
            by_cases hrs : r = sub' onto b
            · rw [if_pos hrs] at hF ⊢
              refine br_ok X (dk rfl) rfl (show ((87 : Nat) : Int) + 5 = ((92 : Nat) : Int) from rfl) (fun c5 => ?_) (fun c5 => absurd (by decide) c5)
              exact put' hF _ rfl
            · rw [if_neg hrs] at hF ⊢
              refine br_ok X (dk rfl) rfl (show ((87 : Nat) : Int) + 5 = ((92 : Nat) : Int) from rfl) (fun c5 => absurd rfl c5) (fun c5 => ?_)
              exact null' hF 90 _ _ _ _ rfl rfl hE1 (by show 1 + j + 1 + 0 ≤ 25; omega) (by show 8 + b + tl onto b + 0 ≤ 32; omega)
        · rw [nI_10] at c3
          have hx10 : 10 ≤ x := by
            rcases Nat.lt_or_ge x 10 with z | z
            · exact absurd ((nI_ltI (by omega) (by omega)).mpr z) c3
            · exact z
          rw [if_pos hx10, hy1] at hF
          repeat refine fst1_ok X (dk rfl) rfl ?_
          refine ald_ok X (Or.inl ⟨rfl, rfl⟩) (dk rfl) (hE _ _ ht) (inA_nI (by omega) (IA_get hy1)) ?_
          repeat refine fst1_ok X (dk rfl) rfl ?_
          refine br_ok X (dk rfl) rfl (show ((53 : Nat) : Int) + 5 = ((58 : Nat) : Int) from rfl) (fun c4 => ?_) (fun c4 => ?_)
          · have hyx : y = x := (nI_eq (by omega) (by omega)).mp c4
            rw [if_pos (by rw [hyx])] at hF
            repeat refine fst1_ok X (dk rfl) rfl ?_
            refine br_ok X (dk rfl) rfl (show ((61 : Nat) : Int) + 43 = ((104 : Nat) : Int) from rfl) (fun _ => ?_) (fun q => absurd trivial q)
            repeat refine fst1_ok X (dk rfl) rfl ?_
            refine br_ok X (dk rfl) rfl (show ((107 : Nat) : Int) + (-88) = ((19 : Nat) : Int) from rfl) (fun _ => ?_) (fun q => absurd trivial q)
            have f3 : Value.int (nI b + Int32.ofInt 1) = vI (b + 1) := congrArg Value.int (by rw [nI_1', nI_add])
            refine WS.sel (l' := [(6, vI (j + 1)), (5, vI one.length), (4, .ref o), (3, vI (b + 1)), (2, .ref T), (1, .ref t)]) [6, 5, 4, 3, 2, 1] (by rw [← f2, ← f3]; rfl) ?_
            refine WS.widen (k' := 1 + (j + 1)) (n' := 8 + (b + 1)) (by omega) (by omega) ?_
            exact ih (j + 1) (by omega) (by omega) (b + 1) told (by omega) hTT hF hh _ rfl hE hTO
          · have hyx : ¬ y = x := fun z => c4 (by rw [z])
            rw [if_neg (fun z => hyx (Option.some.inj z))] at hF
            exact null' hF 56 _ _ _ _ rfl rfl hE (by omega) (by omega)
      · have hbl : onto.length ≤ b := by
          rcases Nat.lt_or_ge b onto.length with z | z
          · exact absurd ((nI_ltI (by omega) (by omega)).mpr z) c2
          · exact z
        rw [if_pos hbl] at hF
        exact null' hF 39 _ _ _ _ rfl rfl hE (by omega) (by omega)
  iterate 3 refine fst1_ok X (dk rfl) rfl ?_
  refine loop _ 0 rfl (Nat.zero_le _) 0 (List.replicate 8 none) (Nat.zero_le _) ⟨rfl, fun r hr => by simp at hr⟩ rfl _ _ rfl (Ext.new hT _) ⟨List.replicate 8 none, rfl, rfl, hup_self _ _ _, fun k r hk => ?_, fun k hk => ?_⟩
  · rw [List.getElem?_replicate] at hk
    split at hk <;> cases hk
  · rw [List.getElem?_replicate] at hk ⊢
    split at hk
    · rename_i hk8
      rw [if_pos hk8]
    · cases hk
end M16
end U33m15
section U34fldM
set_option maxRecDepth 100000 in
theorem cwX8 : ∀ w ∈ u_ws RX8 TX8 5, w ∈ WT := fun w h => WT_of ((show ∀ w ∈ u_ws RX8 TX8 5, w ∈ lw_tbl by decide +kernel) w h) ((show ∀ w ∈ u_ws RX8 TX8 5, goodWord w = true by decide +kernel) w h)
theorem ftX8_0 : FT 10 0 (.array (.array .int)) true := ⟨RX8, TX8, 5, rfl, by decide +kernel, rfl⟩
theorem ftX8_1 : FT 10 1 (.array .int) true := ⟨RX8, TX8, 5, rfl, by decide +kernel, rfl⟩
theorem ftX8_2 : FT 10 2 (.array .int) true := ⟨RX8, TX8, 5, rfl, by decide +kernel, rfl⟩
theorem ftX8_3 : FT 10 3 .int false := ⟨RX8, TX8, 5, rfl, by decide +kernel, rfl⟩
theorem ftX8_4 : FT 10 4 .boolean false := ⟨RX8, TX8, 5, rfl, by decide +kernel, rfl⟩
set_option maxRecDepth 100000 in
theorem cwX9 : ∀ w ∈ u_ws RX9 TX9 3, w ∈ WT := fun w h => WT_of ((show ∀ w ∈ u_ws RX9 TX9 3, w ∈ lw_tbl by decide +kernel) w h) ((show ∀ w ∈ u_ws RX9 TX9 3, goodWord w = true by decide +kernel) w h)
theorem ftX9_0 : FT 11 0 (.array (.array .int)) true := ⟨RX9, TX9, 3, rfl, by decide +kernel, rfl⟩
theorem ftX9_1 : FT 11 1 .int false := ⟨RX9, TX9, 3, rfl, by decide +kernel, rfl⟩
theorem ftX9_2 : FT 11 2 .int false := ⟨RX9, TX9, 3, rfl, by decide +kernel, rfl⟩
set_option maxRecDepth 100000 in
theorem cwX10 : ∀ w ∈ u_ws RX10 TX10 6, w ∈ WT := fun w h => WT_of ((show ∀ w ∈ u_ws RX10 TX10 6, w ∈ lw_tbl by decide +kernel) w h) ((show ∀ w ∈ u_ws RX10 TX10 6, goodWord w = true by decide +kernel) w h)
theorem ftX10_0 : FT 12 0 (.array (.array .int)) true := ⟨RX10, TX10, 6, rfl, by decide +kernel, rfl⟩
theorem ftX10_1 : FT 12 1 (.array (.array (.array .int))) true := ⟨RX10, TX10, 6, rfl, by decide +kernel, rfl⟩
theorem ftX10_2 : FT 12 2 .int false := ⟨RX10, TX10, 6, rfl, by decide +kernel, rfl⟩
theorem ftX10_3 : FT 12 3 .int false := ⟨RX10, TX10, 6, rfl, by decide +kernel, rfl⟩
theorem ftX10_4 : FT 12 4 .int false := ⟨RX10, TX10, 6, rfl, by decide +kernel, rfl⟩
theorem ftX10_5 : FT 12 5 .int false := ⟨RX10, TX10, 6, rfl, by decide +kernel, rfl⟩
set_option maxRecDepth 100000 in
theorem flX10_11 : FL RX10 11 12 0 := ⟨RX10, TX10, 6, tyX10, rfl, cwX10, by decide, WT_of (tbw_6 (List.mem_of_getElem? (i := 88) rfl)) rfl, rfl, tyX10_ok, nmX10⟩
set_option maxRecDepth 100000 in
theorem flX10_16 : FL RX10 16 12 1 := ⟨RX10, TX10, 6, tyX10, rfl, cwX10, by decide, WT_of (tbw_6 (List.mem_of_getElem? (i := 89) rfl)) rfl, rfl, tyX10_ok, nmX10⟩
set_option maxRecDepth 100000 in
theorem flX10_82 : FL RX10 82 12 2 := ⟨RX10, TX10, 6, tyX10, rfl, cwX10, by decide, WT_of (tbw_6 (List.mem_of_getElem? (i := 90) rfl)) rfl, rfl, tyX10_ok, nmX10⟩
set_option maxRecDepth 100000 in
theorem flX10_85 : FL RX10 85 12 3 := ⟨RX10, TX10, 6, tyX10, rfl, cwX10, by decide, WT_of (tbw_6 (List.mem_of_getElem? (i := 91) rfl)) rfl, rfl, tyX10_ok, nmX10⟩
set_option maxRecDepth 100000 in
theorem flX10_218 : FL RX10 218 12 4 := ⟨RX10, TX10, 6, tyX10, rfl, cwX10, by decide, WT_of (tbw_6 (List.mem_of_getElem? (i := 92) rfl)) rfl, rfl, tyX10_ok, nmX10⟩
set_option maxRecDepth 100000 in
theorem flX10_28 : FL RX10 28 12 5 := ⟨RX10, TX10, 6, tyX10, rfl, cwX10, by decide, WT_of (tbw_6 (List.mem_of_getElem? (i := 93) rfl)) rfl, rfl, tyX10_ok, nmX10⟩
set_option maxRecDepth 100000 in
theorem flX9_11 : FL RX9 11 11 0 := ⟨RX9, TX9, 3, tyX9, rfl, cwX9, by decide, WT_of (tbw_7 (List.mem_of_getElem? (i := 54) rfl)) rfl, rfl, tyX9_ok, nmX9⟩
set_option maxRecDepth 100000 in
theorem flX9_29 : FL RX9 29 11 1 := ⟨RX9, TX9, 3, tyX9, rfl, cwX9, by decide, WT_of (tbw_7 (List.mem_of_getElem? (i := 55) rfl)) rfl, rfl, tyX9_ok, nmX9⟩
set_option maxRecDepth 100000 in
theorem fnX10_211 : FLN RX10 211 11 1 := ⟨RX9, TX9, 3, "BranchmatchModel", rfl, cwX9, by decide, tbw_7 (List.mem_of_getElem? (i := 56) rfl), rfl⟩
set_option maxRecDepth 100000 in
theorem flX9_25 : FL RX9 25 11 2 := ⟨RX9, TX9, 3, tyX9, rfl, cwX9, by decide, WT_of (tbw_7 (List.mem_of_getElem? (i := 57) rfl)) rfl, rfl, tyX9_ok, nmX9⟩
set_option maxRecDepth 100000 in
theorem fnX10_204 : FLN RX10 204 11 2 := ⟨RX9, TX9, 3, "BranchmatchModel", rfl, cwX9, by decide, tbw_7 (List.mem_of_getElem? (i := 58) rfl), rfl⟩
set_option maxRecDepth 100000 in
theorem flX8_11 : FL RX8 11 10 0 := ⟨RX8, TX8, 5, tyX8, rfl, cwX8, by decide, WT_of (tbw_7 (List.mem_of_getElem? (i := 104) rfl)) rfl, rfl, tyX8_ok, nmX8⟩
set_option maxRecDepth 100000 in
theorem flX8_17 : FL RX8 17 10 1 := ⟨RX8, TX8, 5, tyX8, rfl, cwX8, by decide, WT_of (tbw_7 (List.mem_of_getElem? (i := 105) rfl)) rfl, rfl, tyX8_ok, nmX8⟩
set_option maxRecDepth 100000 in
theorem flX8_20 : FL RX8 20 10 2 := ⟨RX8, TX8, 5, tyX8, rfl, cwX8, by decide, WT_of (tbw_7 (List.mem_of_getElem? (i := 106) rfl)) rfl, rfl, tyX8_ok, nmX8⟩
set_option maxRecDepth 100000 in
theorem flX8_35 : FL RX8 35 10 3 := ⟨RX8, TX8, 5, tyX8, rfl, cwX8, by decide, WT_of (tbw_7 (List.mem_of_getElem? (i := 107) rfl)) rfl, rfl, tyX8_ok, nmX8⟩
set_option maxRecDepth 100000 in
theorem flX8_23 : FL RX8 23 10 4 := ⟨RX8, TX8, 5, tyX8, rfl, cwX8, by decide, WT_of (tbw_7 (List.mem_of_getElem? (i := 108) rfl)) rfl, rfl, tyX8_ok, nmX8⟩
set_option maxRecDepth 100000 in
theorem fnX10_207 : FLN RX10 207 10 4 := ⟨RX8, TX8, 5, "BranchmatchModel", rfl, cwX8, by decide, tbw_7 (List.mem_of_getElem? (i := 109) rfl), rfl⟩
end U34fldM
section U35priv
/-! private methods of the reference are their own -/
set_option maxRecDepth 100000 in
theorem lpX10_isThrown : Cond.selects yX10_isThrown.cls yX10_isThrown yX10_isThrown ∈ WT := WT_of (by decide +kernel) rfl
set_option maxRecDepth 100000 in
theorem lpX10_isThrown_ : Cond.selects yX10_isThrown_.cls yX10_isThrown_ yX10_isThrown_ ∈ WT := WT_of (by decide +kernel) rfl
set_option maxRecDepth 100000 in
theorem lpX10_done : Cond.selects yX10_done.cls yX10_done yX10_done ∈ WT := WT_of (by decide +kernel) rfl
set_option maxRecDepth 100000 in
theorem lpX10_no : Cond.selects yX10_no.cls yX10_no yX10_no ∈ WT := WT_of (by decide +kernel) rfl
set_option maxRecDepth 100000 in
theorem lpX10_give : Cond.selects yX10_give.cls yX10_give yX10_give ∈ WT := WT_of (by decide +kernel) rfl
set_option maxRecDepth 100000 in
theorem lpX10_isPlace : Cond.selects yX10_isPlace.cls yX10_isPlace yX10_isPlace ∈ WT := WT_of (by decide +kernel) rfl
set_option maxRecDepth 100000 in
theorem lpX10_become : Cond.selects yX10_become.cls yX10_become yX10_become ∈ WT := WT_of (by decide +kernel) rfl
set_option maxRecDepth 100000 in
theorem lpX10_told_ : Cond.selects yX10_told_.cls yX10_told_ yX10_told_ ∈ WT := WT_of (by decide +kernel) rfl
set_option maxRecDepth 100000 in
theorem lpX9_go : Cond.selects yX9_go.cls yX9_go yX9_go ∈ WT := WT_of (by decide +kernel) rfl
set_option maxRecDepth 100000 in
theorem lpX9_deep : Cond.selects yX9_deep.cls yX9_deep yX9_deep ∈ WT := WT_of (by decide +kernel) rfl
set_option maxRecDepth 100000 in
theorem lpX9_bind : Cond.selects yX9_bind.cls yX9_bind yX9_bind ∈ WT := WT_of (by decide +kernel) rfl
set_option maxRecDepth 100000 in
theorem lpX9_isWithin : Cond.selects yX9_isWithin.cls yX9_isWithin yX9_isWithin ∈ WT := WT_of (by decide +kernel) rfl
set_option maxRecDepth 100000 in
theorem lpX9_goOn : Cond.selects yX9_goOn.cls yX9_goOn yX9_goOn ∈ WT := WT_of (by decide +kernel) rfl
set_option maxRecDepth 100000 in
theorem lpX8_come : Cond.selects yX8_come.cls yX8_come yX8_come ∈ WT := WT_of (by decide +kernel) rfl
set_option maxRecDepth 100000 in
theorem lpX8_number : Cond.selects yX8_number.cls yX8_number yX8_number ∈ WT := WT_of (by decide +kernel) rfl
set_option maxRecDepth 100000 in
theorem lpX8_headed : Cond.selects yX8_headed.cls yX8_headed yX8_headed ∈ WT := WT_of (by decide +kernel) rfl
set_option maxRecDepth 100000 in
theorem lpX8_join : Cond.selects yX8_join.cls yX8_join yX8_join ∈ WT := WT_of (by decide +kernel) rfl
set_option maxRecDepth 100000 in
theorem lpX8_isRound : Cond.selects yX8_isRound.cls yX8_isRound yX8_isRound ∈ WT := WT_of (by decide +kernel) rfl
set_option maxRecDepth 100000 in
theorem lpX8_isFree : Cond.selects yX8_isFree.cls yX8_isFree yX8_isFree ∈ WT := WT_of (by decide +kernel) rfl
set_option maxRecDepth 100000 in
theorem lpX8_whole : Cond.selects yX8_whole.cls yX8_whole yX8_whole ∈ WT := WT_of (by decide +kernel) rfl
end U35priv
section U36md
/-! the state of the reference, and its own small methods -/
def bI (b : Bool) : Int32 := bif b then Int32.ofInt 1 else Int32.ofInt 0
theorem bI_f : ¬ bI false ≠ 0 := by decide
theorem bI_f' : bI false = 0 := by decide
theorem bI_t : bI true ≠ 0 := by decide
theorem bI_n : ∀ b : Bool, narrow .boolean (.int (bI b)) = .int (bI b) := by decide
/-- a number of a range -/
def inN (N : Nat) (x : Int32) : Prop := ∃ j, j < N ∧ x = nI j
theorem inN_of {x : Int32} {N : Nat} (hN : N < 2 ^ 31) (h1 : ¬ x < 0) (h2 : ¬ nI N ≤ x) : inN N x := by
  obtain ⟨j, hj, rfl⟩ := nI_of h1
  exact ⟨j, nI_lt' hj hN h2, rfl⟩
/-- the reference's object o, its slots S, its answers A -/
def MD (h : AH) (o S A : Nat) (sl : List (List Nat)) (an : List (List (List Nat))) (a r kn th : Int32) : Prop :=
  h o = some (12, [.ref S, .ref A, .int a, .int r, .int kn, .int th]) ∧ Ans h S sl ∧ sl.length = 6 ∧ (∀ r ∈ sl, TW r ∧ r.length ≤ 16) ∧
    ∃ as : List Nat, as.length = 3 ∧ an.length = 3 ∧ h A = some (106, as.map Value.ref) ∧ S ∉ as ∧ ∀ (k b : Nat) (rows : List (List Nat)), as[k]? = some b → an[k]? = some rows → Ans h b rows ∧ AO rows
/-- outside the reference's own three cells all stays -/
def Fr (o S A : Nat) (h h' : AH) : Prop := ∀ (b : Nat) (c : AC), b ≠ o → b ≠ S → b ≠ A → h b = some c → h' b = some c
theorem Fr.rf {o S A : Nat} (h : AH) : Fr o S A h h := fun _ _ _ _ _ e => e
theorem Fr.trans {o S A : Nat} {h h1 h2 : AH} (a : Fr o S A h h1) (b : Fr o S A h1 h2) : Fr o S A h h2 := fun x c q1 q2 q3 e => b x c q1 q2 q3 (a x c q1 q2 q3 e)
theorem Fr.ext {o S A : Nat} {h h' : AH} (a : Ext h h') : Fr o S A h h' := fun x c _ _ _ e => a x c e
theorem Fr.set {o S A : Nat} {h h' : AH} (a : Fr o S A h h') {q : Nat} (hq : q = o ∨ q = S ∨ q = A) (c : AC) : Fr o S A h (hup h' q c) := fun x c' q1 q2 q3 e => by
  rw [hup_ne _ _ (by rcases hq with rfl | rfl | rfl <;> assumption)]
  exact a x c' q1 q2 q3 e
theorem Ans.kind {h : AH} {A : Nat} {rows : List (List Nat)} (H : Ans h A rows) : ∃ vs, h A = some (105, vs) := ⟨_, H.choose_spec.2.1⟩
theorem k_ne {h : AH} {a b : Nat} {k1 k2 : Nat} {v1 v2 : List Value} (h1 : h a = some (k1, v1)) (h2 : h b = some (k2, v2)) (hk : k1 ≠ k2) : a ≠ b := fun z => by
  rw [z, h2] at h1
  cases h1
  exact hk rfl
/-- an answer's array, under a change of a cell that isn't it and isn't a row -/
theorem Ans.hup {h : AH} {A q : Nat} {rows : List (List Nat)} (H : Ans h A rows) (hq : q ≠ A) {k : Nat} {vs : List Value} (hk : h q = some (k, vs)) (hn : k ≠ 100) (c : AC) : Ans (hup h q c) A rows := by
  obtain ⟨as, h1, h2, h3⟩ := H
  refine ⟨as, h1, by rw [hup_ne _ _ (Ne.symm hq)]; exact h2, fun k' a r e1 e2 => ?_⟩
  have h4 := h3 k' a r e1 e2
  rw [hup_ne _ _ (fun z => by rw [z, hk] at h4; cases h4; exact hn rfl)]
  exact h4
section MDs
variable {h : AH} {o S A : Nat} {sl : List (List Nat)} {an : List (List (List Nat))} {a r kn th : Int32}
theorem MD.obj (M : MD h o S A sl an a r kn th) : h o = some (12, [.ref S, .ref A, .int a, .int r, .int kn, .int th]) := M.1
theorem MD.ext (M : MD h o S A sl an a r kn th) {h' : AH} (E : Ext h h') : MD h' o S A sl an a r kn th := by
  obtain ⟨m1, m2, m3, m4, as, m5, m6, m7, m8, m9⟩ := M
  exact ⟨E _ _ m1, m2.ext E, m3, m4, as, m5, m6, E _ _ m7, m8, fun k b rows e1 e2 => ⟨(m9 k b rows e1 e2).1.ext E, (m9 k b rows e1 e2).2⟩⟩
theorem MD.fld (M : MD h o S A sl an a r kn th) (a' r' kn' th' : Int32) : MD (hup h o (12, [.ref S, .ref A, .int a', .int r', .int kn', .int th'])) o S A sl an a' r' kn' th' := by
  obtain ⟨m1, m2, m3, m4, as, m5, m6, m7, m8, m9⟩ := M
  obtain ⟨vs, hS⟩ := m2.kind
  refine ⟨hup_self _ _ _, m2.hup (k_ne m1 hS (by decide)) m1 (by decide) _, m3, m4, as, m5, m6, by rw [hup_ne _ _ (k_ne m7 m1 (by decide))]; exact m7, m8, fun k b rows e1 e2 => ?_⟩
  obtain ⟨n1, n2⟩ := m9 k b rows e1 e2
  obtain ⟨vs', hb⟩ := n1.kind
  exact ⟨n1.hup (k_ne m1 hb (by decide)) m1 (by decide) _, n2⟩
/-- the row of a slot -/
theorem MD.slot (M : MD h o S A sl an a r kn th) : ∃ ss : List Nat, ss.length = 6 ∧ h S = some (105, ss.map Value.ref) ∧ ∀ k, k < 6 → ∃ b r, ss[k]? = some b ∧ sl[k]? = some r ∧ h b = some (IA r) ∧ TW r ∧ r.length ≤ 16 := by
  obtain ⟨m1, m2, m3, m4, -⟩ := M
  obtain ⟨ss, h1, h2, h3⟩ := m2.row
  refine ⟨ss, by omega, h2, fun k hk => ?_⟩
  obtain ⟨b, r, e1, e2, e3⟩ := h3 k (by omega)
  exact ⟨b, r, e1, e2, e3, m4 r (List.mem_of_getElem? e2)⟩
/-- the rows of an answer -/
theorem MD.ans (M : MD h o S A sl an a r kn th) : ∃ as : List Nat, as.length = 3 ∧ h A = some (106, as.map Value.ref) ∧ ∀ k, k < 3 → ∃ b rows, as[k]? = some b ∧ an[k]? = some rows ∧ Ans h b rows ∧ AO rows ∧ b ≠ S := by
  obtain ⟨m1, m2, m3, m4, as, m5, m6, m7, m8, m9⟩ := M
  refine ⟨as, m5, m7, fun k hk => ?_⟩
  obtain ⟨b, hb⟩ : ∃ b, as[k]? = some b := ⟨as[k]'(by omega), by simp⟩
  obtain ⟨rows, hr⟩ : ∃ rows, an[k]? = some rows := ⟨an[k]'(by omega), by simp⟩
  obtain ⟨n1, n2⟩ := m9 k b rows hb hr
  exact ⟨b, rows, hb, hr, n1, n2, fun z => m8 (by rw [← z]; exact List.mem_of_getElem? hb)⟩
theorem MD.setS (M : MD h o S A sl an a r kn th) {k q : Nat} {x : List Nat} (hk : k < 6) (hq : h q = some (IA x)) (hx : TW x ∧ x.length ≤ 16) : ∃ vs, h S = some (105, vs) ∧ vs.length = 6 ∧ MD (hup h S (105, vs.set k (.ref q))) o S A (sl.set k x) an a r kn th := by
  obtain ⟨m1, ⟨ss, s1, s2, s3⟩, m3, m4, as, m5, m6, m7, m8, m9⟩ := M
  have hSo : o ≠ S := k_ne m1 s2 (by decide)
  have hSA : A ≠ S := k_ne m7 s2 (by decide)
  refine ⟨_, s2, by rw [List.length_map]; omega, by rw [hup_ne _ _ hSo]; exact m1, ⟨ss.set k q, by simp [s1], by rw [hup_self, List.map_set], fun i b y e1 e2 => ?_⟩, by simp [m3], fun y hy => ?_, as, m5, m6, by rw [hup_ne _ _ hSA]; exact m7, m8, fun i b rows e1 e2 => ?_⟩
  · by_cases hi : i = k
    · subst hi
      rw [List.getElem?_set_self (by omega)] at e1 e2
      cases e1
      cases e2
      rw [hup_ne _ _ (IA_ne hq s2)]
      exact hq
    · rw [List.getElem?_set_ne (Ne.symm hi)] at e1 e2
      have h4 := s3 i b y e1 e2
      rw [hup_ne _ _ (IA_ne h4 s2)]
      exact h4
  · rcases List.mem_or_eq_of_mem_set hy with z | z
    · exact m4 y z
    · rw [z]; exact hx
  · obtain ⟨n1, n2⟩ := m9 i b rows e1 e2
    exact ⟨n1.hup (fun z => m8 (by rw [z]; exact List.mem_of_getElem? e1)) s2 (by decide) _, n2⟩
theorem MD.setA (M : MD h o S A sl an a r kn th) {k q : Nat} {x : List (List Nat)} (hk : k < 3) (hq : Ans h q x) (hx : AO x) (hqS : q ≠ S) : ∃ vs, h A = some (106, vs) ∧ vs.length = 3 ∧ MD (hup h A (106, vs.set k (.ref q))) o S A sl (an.set k x) a r kn th := by
  obtain ⟨m1, m2, m3, m4, as, m5, m6, m7, m8, m9⟩ := M
  obtain ⟨vs, hS⟩ := m2.kind
  obtain ⟨vq, hq'⟩ := hq.kind
  have hAo : o ≠ A := k_ne m1 m7 (by decide)
  refine ⟨_, m7, by rw [List.length_map]; omega, by rw [hup_ne _ _ hAo]; exact m1, m2.hup (k_ne m7 hS (by decide)) m7 (by decide) _, m3, m4, as.set k q, by simp [m5], by simp [m6], by rw [hup_self, List.map_set], fun z => ?_, fun i b rows e1 e2 => ?_⟩
  · rcases List.mem_or_eq_of_mem_set z with y | y
    · exact m8 y
    · exact hqS y.symm
  · by_cases hi : i = k
    · subst hi
      rw [List.getElem?_set_self (by omega)] at e1 e2
      cases e1
      cases e2
      exact ⟨hq.hup (k_ne m7 hq' (by decide)) m7 (by decide) _, hx⟩
    · rw [List.getElem?_set_ne (Ne.symm hi)] at e1 e2
      obtain ⟨n1, n2⟩ := m9 i b rows e1 e2
      obtain ⟨vb, hb⟩ := n1.kind
      exact ⟨n1.hup (k_ne m7 hb (by decide)) m7 (by decide) _, n2⟩
end MDs
end U36md
section U37g1
/-! guards and counters of the reference -/
section M37
variable {la : Launch} {D : va_G} {cA : Nat → ClassId} {B0 pa : Nat}
variable {o S A : Nat} {sl : List (List Nat)} {an : List (List (List Nat))} {a r kn th : Int32}
/-- the reference changes its counters at most -/
def MC (o S A : Nat) (sl : List (List Nat)) (an : List (List (List Nat))) (kn : Int32) (h h' : AH) : Prop := (∃ a r th, MD h' o S A sl an a r kn th) ∧ Fr o S A h h'
end M37
end U37g1
section U38g2
/-! guards at the walk, give, isPlace, become -/
section M38
variable {p : Program} {la : Launch} {e : Env} {R : Room} {s : State} {m : MethodId} {args : Array Value} {below : List Frame} {meth : Method} {c : Code} {Q : State → Prop}
variable {D : va_G} {cA : Nat → ClassId} {B0 pa nL : Nat} {cc : ByteArray} {own : String} {pc k n : Nat} {l : List (Nat × Value)} {r : List Value} {h : AH}
variable {o S A : Nat} {sl : List (List Nat)} {an : List (List (List Nat))} {a r' kn th : Int32}
/-- what a call of the reference leaves -/
def MI (o S A : Nat) (kn : Int32) (h h' : AH) : Prop := (∃ sl an a r th, MD h' o S A sl an a r kn th) ∧ Fr o S A h h'
theorem MD.mi (M : MD h o S A sl an a r' kn th) : MI o S A kn h h := ⟨⟨_, _, _, _, _, M⟩, Fr.rf h⟩
theorem MC.mi {h' : AH} (M : MC o S A sl an kn h h') : MI o S A kn h h' := ⟨⟨_, _, M.1.choose_spec.choose_spec.choose_spec |> fun q => ⟨_, _, _, q⟩⟩, M.2⟩
theorem MI.trans {h1 h2 : AH} (F : Fr o S A h h1) (M : MI o S A kn h1 h2) : MI o S A kn h h2 := ⟨M.1, F.trans M.2⟩
/-- a load from an array of arrays of rows -/
theorem lda_ok (X : CX p s m args c D cA B0 nL cc own) {a j q : Nat} {as : List Nat} (hd : decode cc pc = .ok (.aaload, 1)) (ha : h a = some (106, as.map Value.ref)) (hq : as[j]? = some q) (hl : as.length < 2 ^ 31)
    (kk : WS p la e R s m args below meth c Q D cA B0 nL (pc + 1) l (.ref q :: r) h k n) : WS p la e R s m args below meth c Q D cA B0 nL pc l (.int (nI j) :: .ref a :: r) h k n :=
  ald_ok X (Or.inr (Or.inr ⟨rfl, by decide⟩)) hd ha (inA_nI (v := .ref q) (by have := (List.getElem?_eq_some_iff.mp hq).1; omega) (by rw [List.getElem?_map, hq]; rfl)) kk
/-- a store into an array of arrays of rows -/
theorem sta_ok (X : CX p s m args c D cA B0 nL cc own) {a j q : Nat} {vs fs : List Value} (hd : decode cc pc = .ok (.aastore, 1)) (ha : h a = some (106, vs)) (hq : h q = some (105, fs)) (hj : j < vs.length) (hl : vs.length < 2 ^ 31)
    (kk : WS p la e R s m args below meth c Q D cA B0 nL (pc + 1) l r (hup h a (106, vs.set j (.ref q))) k n) : WS p la e R s m args below meth c Q D cA B0 nL pc l (.ref q :: .int (nI j) :: .ref a :: r) h k n := by
  have e : (nI j).toNatClampNeg = j := nI_clamp (by omega)
  refine ast_ok X (Or.inr (Or.inr (Or.inr (Or.inr (Or.inr ⟨rfl, rfl, q, fs, rfl, hq⟩))))) hd ha ⟨nI_pos (by omega), by rw [e]; exact hj⟩ ?_
  rw [e]
  exact kk
end M38
section M38b
variable {la : Launch} {D : va_G} {cA : Nat → ClassId} {B0 pa : Nat} {o S A : Nat} {sl : List (List Nat)} {an : List (List (List Nat))} {a r kn th : Int32}
theorem nI_16 : (Int8.ofInt 16).toInt32 = nI 16 := by decide +kernel
end M38b
end U38g2
section U40tw2
/-! terms grafted, shifted, put together -/
theorem endL_graft {z : List Nat} (hz : endL 1 z = some z.length) : ∀ (j : Nat) (xs : List Nat) (n k : Nat), endL n xs = some xs.length → j < xs.length → endL 1 (xs.drop j) = some k → endL n ((xs.take j ++ z) ++ xs.drop (j + k)) = some ((xs.take j ++ z) ++ xs.drop (j + k)).length
  | 0, xs, n, k, h, hj, hk => by
    cases n with
    | zero =>
      simp only [endL, Option.some.injEq] at h
      omega
    | succ n =>
      rw [List.drop_zero] at hk
      rw [Nat.add_comm n 1] at h ⊢
      obtain ⟨k1, h1, h2, h3⟩ := endL_add xs 1 n _ h
      rw [hk] at h1
      cases h1
      have e := endL_join (z ++ xs.drop k) 1 n z.length (xs.length - k) (endL_app _ _ _ _ hz) (by rw [List.drop_left]; exact h3)
      simp only [List.take_zero, List.nil_append, Nat.zero_add]
      rw [e]
      simp
  | j + 1, [], n, k, h, hj, hk => by simp at hj
  | j + 1, x :: r, 0, k, h, hj, hk => by simp [endL] at h
  | j + 1, x :: r, n + 1, k, h, hj, hk => by
    simp only [endL, Option.map_eq_some_iff, List.length_cons] at h
    obtain ⟨q, hq, hq2⟩ := h
    have hq3 : q = r.length := by omega
    subst hq3
    rw [List.drop_succ_cons] at hk
    have ih := endL_graft hz j r (n + pF x) k hq (by simpa using hj) hk
    rw [show j + 1 + k = (j + k) + 1 by omega, List.take_succ_cons, List.drop_succ_cons, List.cons_append, List.cons_append]
    simp only [endL]
    rw [ih]
    rfl
theorem TW.graft {xs z : List Nat} (hx : TW xs) (hz : TW z) {j k : Nat} (hj : j < xs.length) (hk : endL 1 (xs.drop j) = some k) : TW ((xs.take j ++ z) ++ xs.drop (j + k)) := by
  refine ⟨endL_graft hz.1 j xs 1 k hx.1 hj hk, fun x h => ?_⟩
  rcases List.mem_append.mp h with h | h
  · rcases List.mem_append.mp h with h | h
    · exact hx.2 x (List.mem_of_mem_take h)
    · exact hz.2 x h
  · exact hx.2 x (List.mem_of_mem_drop h)
/-- names go on by a number -/
def shL (by' : Nat) (x : Nat) : Nat := if x < 10 then (x + by') % 8 else x
theorem endL_map {f : Nat → Nat} : ∀ (xs : List Nat) (n : Nat), (∀ x ∈ xs, pF (f x) = pF x) → endL n (xs.map f) = endL n xs
  | xs, 0, h => by simp [endL]
  | [], n + 1, h => by simp [endL]
  | x :: r, n + 1, h => by
    rw [List.map_cons]
    simp only [endL]
    rw [h x List.mem_cons_self, endL_map r _ (fun y hy => h y (List.mem_cons_of_mem _ hy))]
theorem TW.shift {xs : List Nat} (h : TW xs) (b : Nat) : TW (xs.map (shL b)) := by
  refine ⟨?_, fun y hy => ?_⟩
  · rw [endL_map, List.length_map]
    · exact h.1
    · intro x hx
      unfold shL
      split
      · unfold pF
        rw [if_pos (by omega), if_pos (by omega)]
      · rfl
  · obtain ⟨x, hx, rfl⟩ := List.mem_map.mp hy
    have := h.2 x hx
    unfold shL
    split
    · exact Or.inl (by omega)
    · exact this
/-- a row that still wants m terms -/
def Wnt (M : List Nat) (m : Nat) : Prop := (∀ x ∈ M, okL x) ∧ ∀ (R : List Nat) (k : Nat), endL m R = some k → endL 1 (M ++ R) = some (M.length + k)
theorem Wnt.head {x : Nat} (h : okL x) : Wnt [x] (pF x) := by
  refine ⟨fun y hy => by simp at hy; rw [hy]; exact h, fun R k hk => ?_⟩
  rw [List.cons_append, List.nil_append]
  simp only [endL]
  rw [Nat.zero_add, hk]
  simp [Nat.add_comm]
theorem Wnt.more {M z : List Nat} {m : Nat} (h : Wnt M (m + 1)) (hz : TW z) : Wnt (M ++ z) m := by
  refine ⟨fun y hy => ?_, fun R k hk => ?_⟩
  · rcases List.mem_append.mp hy with q | q
    · exact h.1 y q
    · exact hz.2 y q
  · rw [List.append_assoc, h.2 (z ++ R) (z.length + k) ?_, List.length_append, Nat.add_assoc]
    rw [Nat.add_comm m 1]
    exact endL_join (z ++ R) 1 m z.length k (endL_app _ _ _ _ hz.1) (by rw [List.drop_left]; exact hk)
theorem Wnt.tw {M : List Nat} (h : Wnt M 0) : TW M := by
  refine ⟨?_, h.1⟩
  have := h.2 [] 0 (by simp [endL])
  rw [List.append_nil] at this
  exact this
end U40tw2
section U41h2
/-! graft, put -/
theorem AnsPut {h : AH} {N : Nat} {rows : List (List Nat)} (H : Ans h N rows) {k q n : Nat} {x : List Nat} (hk : k < n) (hq : h q = some (IA x)) (hn : rows.length = n) : ∃ vs, h N = some (105, vs) ∧ vs.length = n ∧ Ans (hup h N (105, vs.set k (.ref q))) N (rows.set k x) := by
  obtain ⟨as, h1, h2, h3⟩ := H
  refine ⟨_, h2, by rw [List.length_map]; omega, as.set k q, by simp [h1], by rw [hup_self, List.map_set], fun i b y e1 e2 => ?_⟩
  by_cases hi : i = k
  · subst hi
    rw [List.getElem?_set_self (by omega)] at e1 e2
    cases e1
    cases e2
    rw [hup_ne _ _ (IA_ne hq h2)]
    exact hq
  · rw [List.getElem?_set_ne (Ne.symm hi)] at e1 e2
    have h4 := h3 i b y e1 e2
    rw [hup_ne _ _ (IA_ne h4 h2)]
    exact h4
theorem AO.set {rows : List (List Nat)} (H : AO rows) {k : Nat} {x : List Nat} (hx : TW x ∧ x.length ≤ 16) : AO (rows.set k x) := by
  refine ⟨by rw [List.length_set]; exact H.1, fun z hz => ?_⟩
  rcases List.mem_or_eq_of_mem_set hz with q | q
  · exact H.2 z q
  · rw [q]; exact hx
theorem AO_none : AO [[0], [1], [2], [3], [4], [5], [6], [7]] := by
  refine ⟨rfl, fun z hz => ?_⟩
  simp only [List.mem_cons, List.not_mem_nil, or_false] at hz
  rcases hz with rfl | rfl | rfl | rfl | rfl | rfl | rfl | rfl <;> exact ⟨TW.name (by omega), by decide⟩
section M39
variable {la : Launch} {D : va_G} {cA : Nat → ClassId} {B0 pa : Nat} {o S A : Nat} {sl : List (List Nat)} {an : List (List (List Nat))} {a r kn th : Int32}
end M39
end U41h2
