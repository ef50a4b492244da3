/-! rows that are terms -/
theorem endL_add : ∀ (xs : List Nat) (a b k : Nat), endL (a + b) xs = some k → ∃ k1, endL a xs = some k1 ∧ k1 ≤ k ∧ endL b (xs.drop k1) = some (k - k1)
  | xs, 0, b, k, h => ⟨0, by simp [endL], Nat.zero_le _, by simpa using h⟩
  | [], a + 1, b, k, h => by rw [show a + 1 + b = (a + b) + 1 by omega] at h; simp [endL] at h
  | x :: r, a + 1, b, k, h => by
    rw [show a + 1 + b = (a + b) + 1 by omega] at h
    simp only [endL, Option.map_eq_some_iff] at h
    obtain ⟨j, hj, rfl⟩ := h
    rw [show a + b + pF x = (a + pF x) + b by omega] at hj
    obtain ⟨k1, h1, h2, h3⟩ := endL_add r (a + pF x) b j hj
    refine ⟨k1 + 1, by simp [endL, h1], by omega, ?_⟩
    rw [List.drop_succ_cons, h3]
    congr 1
    omega
theorem endL_join : ∀ (xs : List Nat) (a b k1 k2 : Nat), endL a xs = some k1 → endL b (xs.drop k1) = some k2 → endL (a + b) xs = some (k1 + k2)
  | xs, 0, b, k1, k2, h1, h2 => by
    simp only [endL, Option.some.injEq] at h1
    subst h1
    simpa using h2
  | [], a + 1, b, k1, k2, h1, h2 => by simp [endL] at h1
  | x :: r, a + 1, b, k1, k2, h1, h2 => by
    simp only [endL, Option.map_eq_some_iff] at h1
    obtain ⟨j, hj, rfl⟩ := h1
    rw [List.drop_succ_cons] at h2
    have := endL_join r (a + pF x) b j k2 hj h2
    rw [show a + 1 + b = (a + b) + 1 by omega]
    simp only [endL]
    rw [show a + b + pF x = a + pF x + b by omega, this]
    simp only [Option.map_some]
    congr 1
    omega
theorem endL_take : ∀ (xs : List Nat) (n k : Nat), endL n xs = some k → endL n (xs.take k) = some k
  | xs, 0, k, h => by simp only [endL, Option.some.injEq] at h; subst h; simp [endL]
  | [], n + 1, k, h => by simp [endL] at h
  | x :: r, n + 1, k, h => by
    simp only [endL, Option.map_eq_some_iff] at h
    obtain ⟨j, hj, rfl⟩ := h
    simp [endL, endL_take r _ j hj]
theorem endL_app : ∀ (xs ys : List Nat) (n k : Nat), endL n xs = some k → endL n (xs ++ ys) = some k
  | xs, ys, 0, k, h => by simp only [endL, Option.some.injEq] at h; subst h; simp [endL]
  | [], ys, n + 1, k, h => by simp [endL] at h
  | x :: r, ys, n + 1, k, h => by
    simp only [endL, Option.map_eq_some_iff] at h
    obtain ⟨j, hj, rfl⟩ := h
    simp [endL, endL_app r ys _ j hj]
theorem endL_pos : ∀ {xs : List Nat} {n k : Nat}, endL (n + 1) xs = some k → 0 < k
  | [], n, k, h => by simp [endL] at h
  | x :: r, n, k, h => by
    simp only [endL, Option.map_eq_some_iff] at h
    obtain ⟨j, hj, rfl⟩ := h
    omega
/-- at each place of a row of whole terms stands a term -/
theorem endL_at : ∀ (xs : List Nat) (n j : Nat), endL n xs = some xs.length → j < xs.length → ∃ k, endL 1 (xs.drop j) = some k
  | [], n, j, h, hj => by simp at hj
  | x :: r, 0, j, h, hj => by simp [endL] at h
  | x :: r, n + 1, 0, h, hj => by
    rw [show n + 1 = 1 + n by omega] at h
    obtain ⟨k1, h1, -⟩ := endL_add (x :: r) 1 n _ h
    exact ⟨k1, by simpa using h1⟩
  | x :: r, n + 1, j + 1, h, hj => by
    simp only [endL, Option.map_eq_some_iff, List.length_cons] at h
    obtain ⟨i, hi, e⟩ := h
    have : i = r.length := by omega
    subst this
    rw [List.drop_succ_cons]
    exact endL_at r (n + pF x) j hi (by simpa using hj)
def okL (x : Nat) : Prop := x < 8 ∨ (10 ≤ x ∧ x < 18)
/-- a row that is a term -/
def TW (xs : List Nat) : Prop := endL 1 xs = some xs.length ∧ ∀ x ∈ xs, okL x
theorem okL.lt {x : Nat} (h : okL x) : x < 18 := by rcases h with h | h <;> omega
theorem TW.lt {xs : List Nat} (h : TW xs) : ∀ x ∈ xs, x < 2 ^ 10 := fun x hx => by have := (h.2 x hx).lt; omega
theorem TW.pos {xs : List Nat} (h : TW xs) : 0 < xs.length := endL_pos (n := 0) h.1
theorem TW.at {xs : List Nat} (h : TW xs) {j : Nat} (hj : j < xs.length) : ∃ k, endL 1 (xs.drop j) = some k ∧ 0 < k ∧ j + k ≤ xs.length ∧ TW ((xs.drop j).take k) := by
  obtain ⟨k, hk⟩ := endL_at xs 1 j h.1 hj
  have h1 := endL_le hk
  rw [List.length_drop] at h1
  refine ⟨k, hk, endL_pos (n := 0) hk, by omega, ?_, fun x hx => h.2 x (List.mem_of_mem_drop (List.mem_of_mem_take hx))⟩
  rw [endL_take _ _ _ hk]
  congr 1
  simp
  omega
theorem TW.name {x : Nat} (h : x < 8) : TW [x] := by
  refine ⟨?_, fun y hy => ?_⟩
  · have : pF x = 0 := by unfold pF; rw [if_pos (by omega)]
    simp [endL, this]
  · simp at hy; subst hy; exact Or.inl h
/-- whole terms, one put in for each name -/
theorem endL_used (rows : List (List Nat)) (hrows : ∀ r ∈ rows, TW r) : ∀ (ts : List Nat) (n : Nat), endL n ts = some ts.length → (∀ x ∈ ts, okL x) → 8 ≤ rows.length → endL n (usedL rows ts) = some (usedL rows ts).length
  | [], 0, _, _, _ => by simp [endL, usedL]
  | [], n + 1, h, _, _ => by simp [endL] at h
  | x :: r, 0, h, _, _ => by simp [endL] at h
  | x :: r, n + 1, h, hx, h8 => by
    simp only [endL, Option.map_eq_some_iff, List.length_cons] at h
    obtain ⟨j, hj, e⟩ := h
    have hj2 : j = r.length := by omega
    subst hj2
    have ih := endL_used rows hrows r (n + pF x) hj (fun y hy => hx y (List.mem_cons_of_mem _ hy)) h8
    have hu : usedL rows (x :: r) = useL rows x ++ usedL rows r := by simp [usedL]
    rw [hu, List.length_append]
    rcases hx x List.mem_cons_self with h1 | h1
    · have hp : pF x = 0 := by unfold pF; rw [if_pos (by omega)]
      rw [hp, Nat.add_zero] at ih
      obtain ⟨rr, hr⟩ : ∃ rr, rows[x]? = some rr := ⟨rows[x]'(by omega), by simp⟩
      have hul : useL rows x = rr := by unfold useL; rw [if_pos (by omega), List.getD_eq_getElem?_getD, hr]; rfl
      have hT := hrows rr (List.mem_of_getElem? hr)
      rw [hul, show n + 1 = 1 + n by omega]
      exact endL_join _ 1 n rr.length _ (endL_app _ _ _ _ hT.1) (by rw [List.drop_left]; exact ih)
    · have hul : useL rows x = [x] := by unfold useL; rw [if_neg (by omega)]
      rw [hul]
      simp only [List.cons_append, List.nil_append, endL, ih, Option.map_some, List.length_singleton]
      congr 1
      omega
theorem TW.used {rows : List (List Nat)} {ts : List Nat} (hrows : ∀ r ∈ rows, TW r) (h8 : 8 ≤ rows.length) (h : TW ts) : TW (usedL rows ts) := by
  refine ⟨endL_used rows hrows ts 1 h.1 h.2 h8, fun x hx => ?_⟩
  unfold usedL at hx
  obtain ⟨y, hy, hx⟩ := List.mem_flatMap.mp hx
  unfold useL at hx
  split at hx
  · rename_i h10
    rw [List.getD_eq_getElem?_getD] at hx
    cases hr : rows[y]? with
    | none => rw [hr] at hx; simp at hx
    | some rr => rw [hr] at hx; exact (hrows rr (List.mem_of_getElem? hr)).2 x hx
  · simp at hx; subst hx; exact h.2 x hy
theorem usedL_len (rows : List (List Nat)) {M : Nat} (hM : ∀ r ∈ rows, r.length ≤ M) (h1 : 1 ≤ M) : ∀ ts : List Nat, (usedL rows ts).length ≤ M * ts.length
  | [] => by simp [usedL]
  | x :: r => by
    have hu : usedL rows (x :: r) = useL rows x ++ usedL rows r := by simp [usedL]
    have ih := usedL_len rows hM h1 r
    have h2 : (useL rows x).length ≤ M := by
      unfold useL
      split
      · rw [List.getD_eq_getElem?_getD]
        cases hr : rows[x]? with
        | none => simp
        | some rr => exact hM rr (List.mem_of_getElem? hr)
      · simpa using h1
    rw [hu, List.length_append, List.length_cons, Nat.mul_add]
    omega
