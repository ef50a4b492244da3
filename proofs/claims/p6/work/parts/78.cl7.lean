/-! the reference's classes, 7: two of them for the same two terms come to the same; what an answer of them costs -/
def PtE (ts : List (List Nat)) (pt pt' : List Nat) : Prop := ∀ a, a < ts.length → ∀ j, j < pF (hdT ts a) → pt.getD (3 * a + j) 0 = pt'.getD (3 * a + j) 0
theorem joinL_congr {go go' : List Nat → Bool → Nat → Nat → Option (List Nat × Bool)} (hg : ∀ o c x y, go o c x y = go' o c x y) {pt pt' : List Nat} {a b : Nat} : ∀ (n j : Nat) (of' : List Nat) (can : Bool), (∀ i, j ≤ i → i < j + n → pt.getD (3 * a + i) 0 = pt'.getD (3 * a + i) 0 ∧ pt.getD (3 * b + i) 0 = pt'.getD (3 * b + i) 0) → joinL go pt a b n j of' can = joinL go' pt' a b n j of' can
  | 0, j, of', can, _ => rfl
  | n + 1, j, of', can, h => by
    obtain ⟨h1, h2⟩ := h j (Nat.le_refl _) (by omega)
    unfold joinL
    rw [hg, h1, h2]
    cases go' of' can (pt'.getD (3 * a + j) 0) (pt'.getD (3 * b + j) 0) with
    | none => rfl
    | some q => exact joinL_congr hg n (j + 1) q.1 q.2 (fun i e1 e2 => h i (by omega) (by omega))
theorem joinF_congr {ts : List (List Nat)} {pt pt' : List Nat} (hE : PtE ts pt pt') : ∀ (f : Nat) (of' : List Nat) (can : Bool) (one other : Nat), joinF ts pt f of' can one other = joinF ts pt' f of' can one other
  | 0, _, _, _, _ => rfl
  | f + 1, of', can, one, other => by
    have ih := joinF_congr hE f
    unfold joinF
    by_cases c : of'.getD one 0 = of'.getD other 0 ∨ can = false
    · rw [if_pos c, if_pos c]
    · rw [if_neg c, if_neg c]
      cases h1 : headF ts of' (of'.getD one 0) with
      | none => rfl
      | some a =>
        cases h2 : headF ts of' (of'.getD other 0) with
        | none => rfl
        | some b =>
          dsimp only
          by_cases e : hdT ts a = hdT ts b
          · rw [if_pos e, if_pos e]
            exact joinL_congr ih _ _ _ _ (fun i _ hi => ⟨hE a (headF_ok h1).1 i (by omega), hE b (headF_ok h2).1 i (by rw [← e]; omega)⟩)
          · rw [if_neg e, if_neg e]
theorem frF_congr {of' pt pt' : List Nat} {g : List Bool} {a : Nat} : ∀ (n j : Nat), (∀ i, j ≤ i → i < j + n → pt.getD (3 * a + i) 0 = pt'.getD (3 * a + i) 0) → frF of' pt g a n j = frF of' pt' g a n j
  | 0, _, _ => rfl
  | n + 1, j, h => by
    unfold frF
    rw [h j (Nat.le_refl _) (by omega), frF_congr n (j + 1) (fun i e1 e2 => h i (by omega) (by omega))]
theorem freeF_congr {ts : List (List Nat)} {of' pt pt' : List Nat} (hE : PtE ts pt pt') (g : List Bool) (its : Nat) : freeF ts of' pt g (headF ts of' its) = freeF ts of' pt' g (headF ts of' its) := by
  cases h : headF ts of' its with
  | none => rfl
  | some a => exact frF_congr _ _ (fun i _ hi => hE a (headF_ok h).1 i (by omega))
theorem psF_congr {ts : List (List Nat)} {of' pt pt' : List Nat} (hE : PtE ts pt pt') (g : List Bool) : ∀ k, psF ts of' pt g k = psF ts of' pt' g k
  | 0 => rfl
  | k + 1 => by
    rw [psF_succ, psF_succ, psF_congr hE g k, freeF_congr hE]
theorem rdF_congr {ts : List (List Nat)} {of' pt pt' : List Nat} (hE : PtE ts pt pt') : ∀ (f : Nat) (g : List Bool), rdF ts of' pt f g = rdF ts of' pt' f g
  | 0, _ => rfl
  | f + 1, g => by
    unfold rdF
    rw [psF_congr hE g, rdF_congr hE f]
theorem tsN_uq (X : List Nat) : ∀ (z i j : Nat) (t : List Nat), (tsN X z)[i]? = some t → (tsN X z)[j]? = some t → i = j
  | 0, i, j, t, h, _ => by simp [tsN] at h
  | z + 1, i, j, t, h1, h2 => by
    have ih := tsN_uq X z
    unfold tsN comeT at h1 h2
    split at h1
    · rename_i c
      rw [if_pos c] at h2
      exact ih i j t h1 h2
    · rename_i c
      rw [if_neg c] at h2
      rw [List.getElem?_append] at h1 h2
      by_cases a : i < (tsN X z).length
      · rw [if_pos a] at h1
        by_cases b : j < (tsN X z).length
        · rw [if_pos b] at h2
          exact ih i j t h1 h2
        · rw [if_neg b, List.getElem?_singleton] at h2
          split at h2
          · cases h2
            exact absurd (List.mem_of_getElem? h1) c
          · cases h2
      · rw [if_neg a, List.getElem?_singleton] at h1
        split at h1
        · cases h1
          by_cases b : j < (tsN X z).length
          · rw [if_pos b] at h2
            exact absurd (List.mem_of_getElem? h2) c
          · rw [if_neg b, List.getElem?_singleton] at h2
            split at h2
            · omega
            · cases h2
        · cases h1
theorem InP_det {X : List Nat} {n1 : Nat} {ts ts2 : List (List Nat)} {of' of2 pt pt2 : List Nat} {can can2 : Bool} (H : InP X n1 ts of' pt can) (H2 : InP X n1 ts2 of2 pt2 can2) : ts = ts2 ∧ of' = of2 ∧ can = can2 := by
  obtain ⟨rfl, x1, p1, j1, i0, i1, c1, g, a1, a2, a3, a4, a5, a6⟩ := H
  obtain ⟨rfl, x2, p2, j2, k0, k1, c2, g2, b1, b2, b3, b4, b5, b6⟩ := H2
  have hE : PtE (tsN X X.length) pt pt2 := fun a ha j hj => tsN_uq X X.length _ _ _ (x1 a j ha hj (Or.inl ha)) (x2 a j ha hj (Or.inl ha))
  have e0 := tsN_uq X X.length _ _ _ a1 b1
  have e1 := tsN_uq X X.length _ _ _ a2 b2
  subst e0
  subst e1
  rw [joinF_congr hE, b3] at a3
  obtain ⟨rfl, rfl⟩ := Prod.mk.injEq .. ▸ Option.some.inj a3
  rw [rdF_congr hE, b4] at a4
  cases a4
  exact ⟨rfl, rfl, by rw [a6, b6]⟩
theorem ansE {X : List Nat} {n1 : Nat} {ts : List (List Nat)} {of' pt : List Nat} (H : InP X n1 ts of' pt true) (h32 : ts.length ≤ 32) : PtOk ts pt ∧ ∃ r C N, anF ts of' pt 33 ts.length 0 [[0], [1], [2], [3], [4], [5], [6], [7]] 9 16 = some (r, C, N) ∧ C ≤ 3177 ∧ N ≤ 50704 := by
  obtain ⟨-, -, p1, j1, i0, i1, c1, g, -, -, -, -, ⟨rk, K, k1, k2, k3⟩, a6⟩ := H
  have hr : rnF of' g ts.length 0 = false := by
    cases hz : rnF of' g ts.length 0 with
    | false => rfl
    | true => rw [hz] at a6; simp at a6
  have hall := rnF_no _ _ hr
  have hle := cgN_le ts.length g
  obtain ⟨r, C, N, e1, e2, e3⟩ := anF_ok (ts := ts) (of' := of') (pt := pt) (F := 33) (fun k hk => wcF_ok k3 33 _ (hall k (Nat.zero_le _) (by omega)) (by have := k1 (of'.getD k 0); omega)) ts.length 0 [[0], [1], [2], [3], [4], [5], [6], [7]] 9 16 (Nat.zero_add _)
  exact ⟨p1, r, C, N, e1, by omega, by omega⟩
