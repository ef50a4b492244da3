/-! the bound on the steps, 7: what a name's weight is at most -/
def hvN (X : List Nat) (S : SS) (x : Nat) : Nat := match S x with
  | some p => if 10 ≤ gl X p then 1 else 0
  | none => 0
def nbN (S : SS) (x : Nat) : Nat := match S x with
  | some _ => 1
  | none => 0
theorem hvN_le (X : List Nat) (S : SS) (x : Nat) : hvN X S x ≤ nbN S x := by
  unfold hvN nbN
  split
  · split <;> omega
  · omega
theorem hvN_1 {X : List Nat} {S : SS} {x p : Nat} (h : S x = some p) (h2 : 10 ≤ gl X p) : hvN X S x = 1 := by unfold hvN; rw [h]; exact if_pos h2
def cA' (X : List Nat) (rp : Nat → Nat) (b : Nat) (w : Nat → Nat) (v : Nat) : Nat := sJ (fun c => if rp c = c ∧ uP X b w c ≤ v then 2 * ga X c else 0) X.length
def AA (X : List Nat) (S : SS) (rp : Nat → Nat) (b : Nat) (w : Nat → Nat) (v : Nat) : Nat := cA' X rp b w v + 3 * sJ (fun x => if w x ≤ v then hvN X S x else 0) 8
/-- a table of the greatest sizes -/
def Gp (g : Nat → Nat) (b : Nat) : Prop := (∀ n, b ≤ g n) ∧ ∀ n t e v, v ≤ g n → 1 ≤ t → e ≤ 2 * t → n + 2 * (t + e) + 3 ≤ 60 → ∀ n', n + 2 * (t + e) + 3 ≤ n' → n' ≤ 60 → t + (1 + e) * v ≤ g n'
theorem hv_ex {X : List Nat} (hX : BX X) {S : SS} (hS : S1 X S) {b : Nat} {w : Nat → Nat} (hw : VW X S b w) (hb : ∀ x, S x = none → w x = b) : ∀ n x, x < n → w x = b ∨ ∃ y q, S y = some q ∧ 10 ≤ gl X q ∧ w y = w x
  | 0, x, h => by omega
  | n + 1, x, h => by
    cases hx : S x with
    | none => exact Or.inl (hb x hx)
    | some q =>
      rcases Nat.lt_or_ge (gl X q) 10 with c | c
      · obtain ⟨h1, h2, h3⟩ := hS x q hx
        have h4 := h3 c
        have e : w x = w (gl X q) := by
          rw [hw.2 x q hx, uP_leaf hX h2 (ga_name c)]
          unfold wl
          rw [if_pos c]
        rw [e]
        exact hv_ex hX hS hw hb n _ (by omega)
      · exact Or.inr ⟨x, q, hx, c, rfl⟩
theorem mx_ex {X : List Nat} {S : SS} {b : Nat} {w : Nat → Nat} {v : Nat} : ∀ n : Nat, ∃ v', b ≤ v' ∧ (v' = b ∨ ∃ y q, S y = some q ∧ 10 ≤ gl X q ∧ w y = v' ∧ v' < v) ∧ ∀ y q, y < n → S y = some q → 10 ≤ gl X q → w y < v → w y ≤ v'
  | 0 => ⟨b, Nat.le_refl _, Or.inl rfl, fun y q h => by omega⟩
  | n + 1 => by
    obtain ⟨v', h1, h2, h3⟩ := mx_ex (X := X) (S := S) (b := b) (w := w) (v := v) n
    by_cases c : ∃ q, S n = some q ∧ 10 ≤ gl X q ∧ w n < v ∧ v' < w n
    · obtain ⟨q, c1, c2, c3, c4⟩ := c
      refine ⟨w n, by omega, Or.inr ⟨n, q, c1, c2, rfl, c3⟩, fun y q' hy e1 e2 e3 => ?_⟩
      rcases Nat.lt_or_ge y n with z | z
      · have := h3 y q' z e1 e2 e3
        omega
      · have : y = n := by omega
        rw [this]
        exact Nat.le_refl _
    · refine ⟨v', h1, h2, fun y q' hy e1 e2 e3 => ?_⟩
      rcases Nat.lt_or_ge y n with z | z
      · exact h3 y q' z e1 e2 e3
      · have : y = n := by omega
        subst this
        exact Nat.le_of_not_lt (fun h => c ⟨q', e1, e2, e3, h⟩)
theorem lv_ok {X : List Nat} {n1 : Nat} {S : SS} {dn an : PL2} {rp : Nat → Nat} {b : Nat} {w : Nat → Nat} (H : LVH X n1 S dn an rp b w) (hb1 : b ≤ 1) {g : Nat → Nat} (hg : Gp g b) :
    ∀ n v x p, v ≤ n → S x = some p → 10 ≤ gl X p → w x = v → (∀ q ∈ an, v < uP X b w q.1 ∧ v < uP X b w q.2) → AA X S rp b w v ≤ 60 → v ≤ g (AA X S rp b w v) := by
  have H' := H
  obtain ⟨hY, hS, hC, hO, hT, hw, hb, r1, r2, r3⟩ := H
  have hX := hY.1
  intro n
  induction n with
  | zero => intro v x p hn _ _ _ _ _; omega
  | succ n ih =>
    intro v x p hn hx hp10 hwx hM hA
    obtain ⟨x8, hp, -⟩ := hS x p hx
    have hu : uP X b w p = v := by rw [← hw.2 x p hx]; exact hwx
    rcases Nat.eq_zero_or_pos (ga X p) with z | z
    · rw [uP_leaf hX hp z] at hu
      have : v = b := by
        rw [← hu]
        unfold wl
        rw [if_neg (by omega), if_pos (show pF (gl X p) = 0 from z)]
      rw [this]
      exact hg.1 _
    obtain ⟨v', m1, m2, m3⟩ := mx_ex (X := X) (S := S) (b := b) (w := w) (v := v) 8
    have hbv : b < v := by
      have h1 := uP_kid hX (b := b) (w := w) hp (show 0 < ga X p from z)
      have h2 := uP_ge hX hb1 hw.1 (ko_mono hX hp z).2.2.2.2
      omega
    have hvv : v' < v := by
      rcases m2 with h | ⟨y, q, -, -, -, h⟩
      · omega
      · exact h
    have m4 : ∀ y q, S y = some q → w y < v → w y ≤ v' := by
      intro y q hy hlt
      rcases hv_ex hX hS hw hb (y + 1) y (Nat.lt_succ_self _) with h | ⟨y2, q2, h1, h2, h3⟩
      · omega
      · have := m3 y2 q2 (hS y2 q2 h1).1 h1 h2 (by omega)
        omega
    have fr := fr_ok hX (b := b) (w := w) (v := v') hp (fun s s1 s2 s3 => ?_) (tl X p) p (Nat.le_refl _) (Nat.le_refl _) (Nat.le_refl _) hp
    · have cls := cls_ok H' hp (fun q hq => by rw [hu]; exact hM q hq) (v := v') (fun y q h1 h2 h3 => by have := m4 y q h1 (by omega); omega)
      rw [hu] at fr cls
      generalize ht : cI X (fun i => if v' < uP X b w i then 1 else 0) p = t at fr
      generalize he : cI X (fun i => if v' < uP X b w i then ga X i - 1 else 0) p = e at fr
      have h0 := (bx_tl hX hp).2.1
      have h1 : 1 ≤ t := by
        rw [← ht]
        have := sJ_mem (f := fun i => if v' < uP X b w (p + i) then 1 else 0) h0
        rw [Nat.add_zero, if_pos (by omega)] at this
        exact this
      have h2 : e ≤ 2 * t := by
        rw [← ht, ← he]
        unfold cI
        rw [← sJ_two]
        refine sJ_le (fun i hi => ?_)
        have := ga_le hX (show p + i < X.length by have := (bx_tl hX hp).2.2; omega)
        dsimp only
        split <;> omega
      have h3 : 2 * (t + e) ≤ sJ (fun i => if v' < uP X b w (p + i) then 2 * ga X (p + i) else 0) (tl X p) := by
        rw [← ht, ← he]
        unfold cI
        rw [← sJ_plus, ← sJ_two]
        refine sJ_le (fun i hi => ?_)
        dsimp only
        split
        · rename_i hc
          have : 0 < ga X (p + i) := Decidable.byContradiction (fun y => by
            have h5 := (uP_in hX (b := b) (w := w) _ p (p + i) (Nat.le_refl _) hp (by omega) (by omega))
            have hpi : p + i < X.length := by have := (bx_tl hX hp).2.2; omega
            have y0 : ga X (p + i) = 0 := by omega
            have hne : p + i ≠ p := fun e9 => by rw [e9] at y0; omega
            have h6 := h5.2 hne
            rw [uP_leaf hX hpi y0] at h6 hc
            unfold wl at h6 hc
            split at hc
            · rename_i h10
              rw [if_pos h10] at h6
              cases hs : S (gl X (p + i)) with
              | none => have := hb _ hs; omega
              | some q => have := m4 _ q hs (by omega); omega
            · rename_i h10
              rw [if_pos (show pF (gl X (p + i)) = 0 from y0)] at hc
              omega)
          omega
        · exact Nat.zero_le _
      have hAA : AA X S rp b w v' + 2 * (t + e) + 3 ≤ AA X S rp b w v := by
        unfold AA
        have k1 : cA' X rp b w v' + sJ (fun c => if rp c = c ∧ v' < uP X b w c ∧ uP X b w c ≤ v then 2 * ga X c else 0) X.length ≤ cA' X rp b w v := by
          unfold cA'
          rw [← sJ_plus]
          refine sJ_le (fun c hc => ?_)
          by_cases a1 : rp c = c
          · by_cases a2 : uP X b w c ≤ v'
            · rw [if_pos (show rp c = c ∧ uP X b w c ≤ v' from ⟨a1, a2⟩), if_neg (show ¬ (rp c = c ∧ v' < uP X b w c ∧ uP X b w c ≤ v) from fun y => by have := y.2.1; omega), if_pos (show rp c = c ∧ uP X b w c ≤ v from ⟨a1, by omega⟩)]
              omega
            · rw [if_neg (show ¬ (rp c = c ∧ uP X b w c ≤ v') from fun y => a2 y.2)]
              by_cases a3 : uP X b w c ≤ v
              · rw [if_pos (show rp c = c ∧ v' < uP X b w c ∧ uP X b w c ≤ v from ⟨a1, by omega, a3⟩), if_pos (show rp c = c ∧ uP X b w c ≤ v from ⟨a1, a3⟩)]
                omega
              · rw [if_neg (show ¬ (rp c = c ∧ v' < uP X b w c ∧ uP X b w c ≤ v) from fun y => a3 y.2.2), if_neg (show ¬ (rp c = c ∧ uP X b w c ≤ v) from fun y => a3 y.2)]
                omega
          · rw [if_neg (show ¬ (rp c = c ∧ uP X b w c ≤ v') from fun y => a1 y.1), if_neg (show ¬ (rp c = c ∧ v' < uP X b w c ∧ uP X b w c ≤ v) from fun y => a1 y.1)]
            exact Nat.zero_le _
        have k2 : sJ (fun x => if w x ≤ v' then hvN X S x else 0) 8 + 1 ≤ sJ (fun x => if w x ≤ v then hvN X S x else 0) 8 := by
          refine sJ_lek (k := x) x8 (fun i hi => ?_) ?_
          · by_cases a2 : w i ≤ v'
            · rw [if_pos a2, if_pos (by omega)]
              exact Nat.le_refl _
            · rw [if_neg a2]
              exact Nat.zero_le _
          · rw [if_neg (by omega), if_pos (by omega), hvN_1 hx hp10]
            exact Nat.le_refl _
        omega
      have hv' : v' ≤ g (AA X S rp b w v') := by
        rcases m2 with h | ⟨y, q, y1, y2, y3, y4⟩
        · rw [h]; exact hg.1 _
        · exact ih v' y q (by omega) y1 y2 y3 (fun q hq => by have := hM q hq; omega) (by omega)
      exact Nat.le_trans fr (hg.2 _ t e v' hv' h1 h2 (by omega) _ hAA hA)
    · refine Decidable.byContradiction (fun y => ?_)
      have h5 := (uP_in hX (b := b) (w := w) _ p s (Nat.le_refl _) hp s1 s2)
      have hpi : s < X.length := by have := (bx_tl hX hp).2.2; omega
      have y0 : ga X s = 0 := by omega
      have hne : s ≠ p := fun e9 => by rw [e9] at y0; omega
      have h6 := h5.2 hne
      rw [uP_leaf hX hpi y0] at h6 s3
      unfold wl at h6 s3
      split at s3
      · rename_i h10
        rw [if_pos h10] at h6
        cases hs : S (gl X s) with
        | none => have := hb _ hs; omega
        | some q => have := m4 _ q hs (by omega); omega
      · rename_i h10
        rw [if_pos (show pF (gl X s) = 0 from y0)] at s3
        omega
