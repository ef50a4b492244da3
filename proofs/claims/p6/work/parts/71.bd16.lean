/-! what is told of a name in the end: how many puttings-in -/
theorem sJ_mono (f : Nat → Nat) {a b : Nat} (h : a ≤ b) : sJ f a ≤ sJ f b := by
  rw [show b = a + (b - a) by omega, sJ_add]
  omega
def hcS (X : List Nat) (S : SS) (x : Nat) : Nat := sJ (cnN X S) (x + 1)
def ptS (X : List Nat) (S : SS) (x : Nat) : Nat := if x < 10 then (match S x with
  | some _ => hcS X S x + 1
  | none => 0) else 0
theorem smO_inv {X : List Nat} {S : SS} {x : Nat} {t : List Nat} (h : (smO X S).getD x none = some t) : ∃ q, x < 8 ∧ S x = some q ∧ t = sub' X q := by
  rcases Nat.lt_or_ge x 8 with c | c
  · rw [smO_get X S c] at h
    cases hs : S x with
    | none => rw [hs] at h; cases h
    | some q => rw [hs] at h; cases h; exact ⟨q, c, rfl, rfl⟩
  · rw [List.getD_eq_getElem?_getD, List.getElem?_eq_none (by simpa [smO] using c)] at h
    cases h
theorem ptS_le {X : List Nat} {S : SS} (hS : S1 X S) (x : Nat) : ptS X S x ≤ cnS X S + 1 := by
  unfold ptS
  split
  · split
    · rename_i q hq
      have h8 := (hS x q hq).1
      have := sJ_mono (cnN X S) (show x + 1 ≤ 8 by omega)
      unfold hcS cnS
      omega
    · exact Nat.zero_le _
  · exact Nat.zero_le _
theorem ptS_lt {X : List Nat} {S : SS} (hS : S1 X S) {x q : Nat} (hx : x < 10) (hq : S x = some q) : ptS X S (gl X q) + 1 ≤ ptS X S x := by
  have e : ptS X S x = hcS X S x + 1 := by unfold ptS; rw [if_pos hx, hq]
  rw [e]
  unfold ptS
  split
  · rename_i hg
    split
    · have h1 := (hS x q hq).2.2 hg
      have h2 := sJ_mono (cnN X S) (show gl X q + 1 ≤ x by omega)
      have h3 : cnN X S x = 1 := by
        unfold cnN nbN hvN
        rw [hq]
        dsimp only
        rw [if_neg (by omega)]
      have h4 : hcS X S x = sJ (cnN X S) x + cnN X S x := rfl
      have h5 : hcS X S (gl X q) = sJ (cnN X S) (gl X q + 1) := rfl
      omega
    · omega
  · omega
theorem wh_hd {X : List Nat} (hX : BX X) {q : Nat} (hq : q < X.length) {xs : List Nat} {a : Nat} (ha : a < xs.length) : (xs.take a ++ sub' X q ++ xs.drop (a + 1)).getD a 10 = gl X q := by
  rw [List.getD_eq_getElem?_getD, List.append_assoc, List.getElem?_append_right (by rw [List.length_take]; omega), List.length_take, Nat.min_eq_left (by omega), Nat.sub_self, sub_cons hX hq]
  rfl
theorem wh_ok {X : List Nat} (hX : BX X) {S : SS} (hS : S1 X S) : ∀ (d a : Nat) (xs : List Nat) (f : Nat), a + d = 16 → d * (cnS X S + 2) + 1 ≤ f → ∃ r C n, whF f (smO X S) xs a = some (r, C, n) ∧ C ≤ 4 * (d * (cnS X S + 1)) ∧ n ≤ 80 * (d * (cnS X S + 1)) := by
  intro d
  induction d with
  | zero =>
    intro a xs f ha hf
    obtain ⟨f', rfl⟩ : ∃ f', f = f' + 1 := ⟨f - 1, by omega⟩
    refine ⟨xs, 0, 0, ?_, Nat.zero_le _, Nat.zero_le _⟩
    show (if a < xs.length ∧ xs.length ≤ 16 then _ else _) = _
    rw [if_neg (by omega)]
  | succ d ih =>
    have inner : ∀ (s a : Nat) (xs : List Nat) (f : Nat), a + (d + 1) = 16 → ptS X S (xs.getD a 10) ≤ s → d * (cnS X S + 2) + s + 2 ≤ f → ∃ r C n, whF f (smO X S) xs a = some (r, C, n) ∧ C ≤ 4 * (d * (cnS X S + 1) + s) ∧ n ≤ 80 * (d * (cnS X S + 1) + s) := by
      intro s
      induction s with
      | zero =>
        intro a xs f ha hp hf
        obtain ⟨f', rfl⟩ : ∃ f', f = f' + 1 := ⟨f - 1, by omega⟩
        by_cases c : a < xs.length ∧ xs.length ≤ 16
        · have e : whF (f' + 1) (smO X S) xs a = whF f' (smO X S) xs (a + 1) := by
            show (if a < xs.length ∧ xs.length ≤ 16 then _ else _) = _
            rw [if_pos c]
            have hst : stAt (smO X S) xs a = none := by
              unfold stAt
              split
              · rename_i h10
                cases hg : (smO X S).getD (xs.getD a 10) none with
                | none => rfl
                | some t =>
                  obtain ⟨q, h1, h2, h3⟩ := smO_inv hg
                  have := ptS_lt hS h10 h2
                  omega
              · rfl
            rw [hst]
          obtain ⟨r, C, n, h1, h2, h3⟩ := ih (a + 1) xs f' (by omega) (by omega)
          exact ⟨r, C, n, e.trans h1, by omega, by omega⟩
        · refine ⟨xs, 0, 0, ?_, Nat.zero_le _, Nat.zero_le _⟩
          show (if a < xs.length ∧ xs.length ≤ 16 then _ else _) = _
          rw [if_neg c]
      | succ s ihs =>
        intro a xs f ha hp hf
        obtain ⟨f', rfl⟩ : ∃ f', f = f' + 1 := ⟨f - 1, by omega⟩
        by_cases c : a < xs.length ∧ xs.length ≤ 16
        · cases hst : stAt (smO X S) xs a with
          | none =>
            have e : whF (f' + 1) (smO X S) xs a = whF f' (smO X S) xs (a + 1) := by
              show (if a < xs.length ∧ xs.length ≤ 16 then _ else _) = _
              rw [if_pos c, hst]
            obtain ⟨r, C, n, h1, h2, h3⟩ := ih (a + 1) xs f' (by omega) (by omega)
            exact ⟨r, C, n, e.trans h1, by omega, by omega⟩
          | some t =>
            have hst' := hst
            unfold stAt at hst'
            split at hst'
            · rename_i h10
              obtain ⟨q, h1, h2, rfl⟩ := smO_inv hst'
              have hq := (hS _ _ h2).2.1
              have hl := ptS_lt hS h10 h2
              obtain ⟨r, C, n, k1, k2, k3⟩ := ihs a (xs.take a ++ sub' X q ++ xs.drop (a + 1)) f' ha (by rw [wh_hd hX hq c.1]; omega) (by omega)
              refine ⟨r, 4 + C, 80 + n, ?_, by omega, by omega⟩
              show (if a < xs.length ∧ xs.length ≤ 16 then _ else _) = _
              rw [if_pos c, hst]
              dsimp only
              rw [k1]
            · cases hst'
        · refine ⟨xs, 0, 0, ?_, Nat.zero_le _, Nat.zero_le _⟩
          show (if a < xs.length ∧ xs.length ≤ 16 then _ else _) = _
          rw [if_neg c]
    intro a xs f ha hf
    have h1 : (d + 1) * (cnS X S + 2) = d * (cnS X S + 2) + (cnS X S + 2) := by rw [Nat.add_mul, Nat.one_mul]
    have h2 : (d + 1) * (cnS X S + 1) = d * (cnS X S + 1) + (cnS X S + 1) := by rw [Nat.add_mul, Nat.one_mul]
    rw [h2]
    exact inner (cnS X S + 1) a xs f ha (ptS_le hS _) (by omega)
theorem whE {X : List Nat} (hX : BX X) {S : SS} (hS : S1 X S) (k : Nat) : ∃ r C n, whF 161 (smO X S) [k] 0 = some (r, C, n) ∧ C ≤ 64 * (cnS X S + 1) ∧ n ≤ 1280 * (cnS X S + 1) := by
  have hc := cn_le X S
  obtain ⟨r, C, n, h1, h2, h3⟩ := wh_ok hX hS 16 0 [k] 161 rfl (by omega)
  exact ⟨r, C, n, h1, by omega, by omega⟩
