/-! terms grafted, shifted, put together -/
theorem endL_graft {z : List Nat} (hz : endL 1 z = some z.length) : ∀ (j : Nat) (xs : List Nat) (n k : Nat), endL n xs = some xs.length → j < xs.length → endL 1 (xs.drop j) = some k → endL n ((xs.take j ++ z) ++ xs.drop (j + k)) = some ((xs.take j ++ z) ++ xs.drop (j + k)).length
  | 0, xs, n, k, h, hj, hk => by
    cases n with
    | zero =>
      simp only [endL, Option.some.injEq] at h
      omega
    | succ n =>
      rw [List.drop_zero] at hk
      rw [Nat.add_comm n 1] at h ⊢
      obtain ⟨k1, h1, h2, h3⟩ := endL_add xs 1 n _ h
      rw [hk] at h1
      cases h1
      have e := endL_join (z ++ xs.drop k) 1 n z.length (xs.length - k) (endL_app _ _ _ _ hz) (by rw [List.drop_left]; exact h3)
      simp only [List.take_zero, List.nil_append, Nat.zero_add]
      rw [e]
      simp
  | j + 1, [], n, k, h, hj, hk => by simp at hj
  | j + 1, x :: r, 0, k, h, hj, hk => by simp [endL] at h
  | j + 1, x :: r, n + 1, k, h, hj, hk => by
    simp only [endL, Option.map_eq_some_iff, List.length_cons] at h
    obtain ⟨q, hq, hq2⟩ := h
    have hq3 : q = r.length := by omega
    subst hq3
    rw [List.drop_succ_cons] at hk
    have ih := endL_graft hz j r (n + pF x) k hq (by simpa using hj) hk
    rw [show j + 1 + k = (j + k) + 1 by omega, List.take_succ_cons, List.drop_succ_cons, List.cons_append, List.cons_append]
    simp only [endL]
    rw [ih]
    rfl
theorem TW.graft {xs z : List Nat} (hx : TW xs) (hz : TW z) {j k : Nat} (hj : j < xs.length) (hk : endL 1 (xs.drop j) = some k) : TW ((xs.take j ++ z) ++ xs.drop (j + k)) := by
  refine ⟨endL_graft hz.1 j xs 1 k hx.1 hj hk, fun x h => ?_⟩
  rcases List.mem_append.mp h with h | h
  · rcases List.mem_append.mp h with h | h
    · exact hx.2 x (List.mem_of_mem_take h)
    · exact hz.2 x h
  · exact hx.2 x (List.mem_of_mem_drop h)
/-- names go on by a number -/
def shL (by' : Nat) (x : Nat) : Nat := if x < 10 then (x + by') % 8 else x
theorem endL_map {f : Nat → Nat} : ∀ (xs : List Nat) (n : Nat), (∀ x ∈ xs, pF (f x) = pF x) → endL n (xs.map f) = endL n xs
  | xs, 0, h => by simp [endL]
  | [], n + 1, h => by simp [endL]
  | x :: r, n + 1, h => by
    rw [List.map_cons]
    simp only [endL]
    rw [h x List.mem_cons_self, endL_map r _ (fun y hy => h y (List.mem_cons_of_mem _ hy))]
theorem TW.shift {xs : List Nat} (h : TW xs) (b : Nat) : TW (xs.map (shL b)) := by
  refine ⟨?_, fun y hy => ?_⟩
  · rw [endL_map, List.length_map]
    · exact h.1
    · intro x hx
      unfold shL
      split
      · unfold pF
        rw [if_pos (by omega), if_pos (by omega)]
      · rfl
  · obtain ⟨x, hx, rfl⟩ := List.mem_map.mp hy
    have := h.2 x hx
    unfold shL
    split
    · exact Or.inl (by omega)
    · exact this
/-- a row that still wants m terms -/
def Wnt (M : List Nat) (m : Nat) : Prop := (∀ x ∈ M, okL x) ∧ ∀ (R : List Nat) (k : Nat), endL m R = some k → endL 1 (M ++ R) = some (M.length + k)
theorem Wnt.head {x : Nat} (h : okL x) : Wnt [x] (pF x) := by
  refine ⟨fun y hy => by simp at hy; rw [hy]; exact h, fun R k hk => ?_⟩
  rw [List.cons_append, List.nil_append]
  simp only [endL]
  rw [Nat.zero_add, hk]
  simp [Nat.add_comm]
theorem Wnt.more {M z : List Nat} {m : Nat} (h : Wnt M (m + 1)) (hz : TW z) : Wnt (M ++ z) m := by
  refine ⟨fun y hy => ?_, fun R k hk => ?_⟩
  · rcases List.mem_append.mp hy with q | q
    · exact h.1 y q
    · exact hz.2 y q
  · rw [List.append_assoc, h.2 (z ++ R) (z.length + k) ?_, List.length_append, Nat.add_assoc]
    rw [Nat.add_comm m 1]
    exact endL_join (z ++ R) 1 m z.length k (endL_app _ _ _ _ hz.1) (by rw [List.drop_left]; exact hk)
theorem Wnt.tw {M : List Nat} (h : Wnt M 0) : TW M := by
  refine ⟨?_, h.1⟩
  have := h.2 [] 0 (by simp [endL])
  rw [List.append_nil] at this
  exact this
