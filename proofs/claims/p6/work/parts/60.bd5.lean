/-! the bound on the steps, 5: unlike places of one level are in unlike classes -/
def Kd (X : List Nat) (a i z : Nat) : Prop := a < X.length ∧ i < ga X a ∧ ko X a i = z
theorem Gn_par {X : List Nat} (hX : BX X) {S : SS} (hS : S1 X S) {dn : PL2} (hC : Cl X S dn) {b : Nat} {w : Nat → Nat} (hw : VW X S b w) {m : Nat} {PR : Nat → Nat → Nat → Prop}
    (p1 : ∀ i a b, PR i a b → PR i b a) (p2 : ∀ i a b c, PR i a b → PR i b c → PR i a c)
    (hp : ∀ q ∈ dn, uP X b w q.1 = m → ∃ a a' i, Kd X a i q.1 ∧ Kd X a' i q.2 ∧ PR i a a') {x y : Nat} (g : Gn dn x y) (hm : uP X b w x = m) : x = y ∨ ∃ a a' i, Kd X a i x ∧ Kd X a' i y ∧ PR i a a' := by
  have key := g (fun x y => x = y ∨ (uP X b w x = m ∧ uP X b w y = m ∧ ∃ a a' i, Kd X a i x ∧ Kd X a' i y ∧ PR i a a') ∨ (uP X b w x ≠ m ∧ uP X b w y ≠ m)) (fun a => Or.inl rfl) (fun x y q => ?_) (fun x y z q r => ?_) (fun q hq => ?_)
  · rcases key with h | ⟨_, _, h⟩ | ⟨h, _⟩
    · exact Or.inl h
    · exact Or.inr h
    · exact absurd hm h
  · rcases q with h | ⟨h1, h2, a, a', i, h3, h4, h5⟩ | ⟨h1, h2⟩
    · exact Or.inl h.symm
    · exact Or.inr (Or.inl ⟨h2, h1, a', a, i, h4, h3, p1 _ _ _ h5⟩)
    · exact Or.inr (Or.inr ⟨h2, h1⟩)
  · rcases q with h | ⟨h1, h2, a, a', i, h3, h4, h5⟩ | ⟨h1, h2⟩
    · subst h; exact r
    · rcases r with k | ⟨k1, k2, c, c', j, k3, k4, k5⟩ | ⟨k1, k2⟩
      · subst k; exact Or.inr (Or.inl ⟨h1, h2, a, a', i, h3, h4, h5⟩)
      · obtain ⟨e1, e2⟩ := par_un hX h4.1 k3.1 h4.2.1 k3.2.1 (h4.2.2.trans k3.2.2.symm)
        subst e1
        subst e2
        exact Or.inr (Or.inl ⟨h1, k2, a, c', i, h3, k4, p2 _ _ _ _ h5 k5⟩)
      · exact absurd h2 k1
    · rcases r with k | ⟨k1, k2, c, c', j, k3, k4, k5⟩ | ⟨k1, k2⟩
      · subst k; exact Or.inr (Or.inr ⟨h1, h2⟩)
      · exact absurd k1 h2
      · exact Or.inr (Or.inr ⟨h1, k2⟩)
  · have e := Gn_U hX hS hC hw (hC q hq).1 (Gn.of hq)
    by_cases h : uP X b w q.1 = m
    · exact Or.inr (Or.inl ⟨h, by rw [← e]; exact h, hp q hq h⟩)
    · exact Or.inr (Or.inr ⟨h, by rw [← e]; exact h⟩)
/-- what is smaller than all pairs that are under way is together by pairs that are through -/
theorem Gn_small {X : List Nat} (hX : BX X) {S : SS} (hS : S1 X S) {dn an : PL2} (hC : Cl X S dn) {b : Nat} {w : Nat → Nat} (hw : VW X S b w) {x y : Nat} (hx : x < X.length) (hM : ∀ q ∈ an, uP X b w x < uP X b w q.1 ∧ uP X b w x < uP X b w q.2) (g : Gn (dn ++ an) x y) : Gn dn x y := by
  have key := g (fun x y => Gn dn x y ∨ ((∃ q ∈ an, Gn dn x q.1 ∨ Gn dn x q.2) ∧ (∃ q ∈ an, Gn dn y q.1 ∨ Gn dn y q.2))) (fun a => Or.inl (Gn.rf _ _)) (fun x y q => ?_) (fun x y z q r => ?_) (fun q hq => ?_)
  · rcases key with h | ⟨⟨q, hq, h⟩, _⟩
    · exact h
    · have := hM q hq
      rcases h with h | h
      · have := Gn_U hX hS hC hw hx h
        omega
      · have := Gn_U hX hS hC hw hx h
        omega
  · rcases q with h | ⟨h1, h2⟩
    · exact Or.inl h.sy
    · exact Or.inr ⟨h2, h1⟩
  · rcases q with h | ⟨⟨q, hq, h1⟩, h2⟩
    · rcases r with k | ⟨⟨q, hq, k1⟩, k2⟩
      · exact Or.inl (h.tr k)
      · exact Or.inr ⟨⟨q, hq, k1.imp (fun z => h.tr z) (fun z => h.tr z)⟩, k2⟩
    · rcases r with k | ⟨k1, k2⟩
      · obtain ⟨q', hq', h2⟩ := h2
        exact Or.inr ⟨⟨q, hq, h1⟩, ⟨q', hq', h2.imp (fun z => k.sy.tr z) (fun z => k.sy.tr z)⟩⟩
      · exact Or.inr ⟨⟨q, hq, h1⟩, k2⟩
  · rcases List.mem_append.mp hq with h | h
    · exact Or.inl (Gn.of h)
    · exact Or.inr ⟨⟨q, h, Or.inl (Gn.rf _ _)⟩, ⟨q, h, Or.inr (Gn.rf _ _)⟩⟩
/-- where a pair that is through came from -/
def Ty (X : List Nat) (n1 : Nat) (S : SS) (dn P : PL2) : Prop := ∀ q ∈ dn, (∃ x p, S x = some p ∧ (dp X S p = q.1 ∨ dp X S p = q.2)) ∨ q = (0, n1) ∨ ∃ y ∈ P, ∃ j, j < ga X y.1 ∧ q = (ko X y.1 j, ko X y.2 j)
def Ok2 (X : List Nat) (P : PL2) : Prop := ∀ q ∈ P, q.1 < X.length ∧ q.2 < X.length ∧ gl X q.1 = gl X q.2 ∧ 0 < ga X q.1
theorem td_ok {X : List Nat} {n1 : Nat} (hY : BY X n1) {S : SS} (hS : S1 X S) {dn an : PL2} (hC : Cl X S dn) (hO : Ok2 X (dn ++ an)) (hT : Ty X n1 S dn (dn ++ an)) {b : Nat} {w : Nat → Nat} (hw : VW X S b w) {u : Nat} (hu : u < X.length) (hM : ∀ q ∈ an, uP X b w u < uP X b w q.1 ∧ uP X b w u < uP X b w q.2) :
    ∀ n z z', uP X b w u - uP X b w z ≤ n → u ≤ z → z < u + tl X u → u ≤ z' → z' < u + tl X u → (∀ x p, S x = some p → uP X b w z ≤ w x → w x < uP X b w u → False) → Gn (dn ++ an) z z' → z = z' := by
  have hX := hY.1
  have hu2 := (bx_tl hX hu).2.2
  intro n
  induction n with
  | zero =>
    intro z z' hn z1 z2 z3 z4 hv g
    obtain ⟨i1, i2⟩ := uP_in hX (b := b) (w := w) _ u z (Nat.le_refl _) hu z1 z2
    obtain ⟨j1, j2⟩ := uP_in hX (b := b) (w := w) _ u z' (Nat.le_refl _) hu z3 z4
    have e := Gn_U hX hS hC hw (by omega) (Gn_small hX hS hC hw (by omega) (fun q hq => by have := hM q hq; omega) g)
    have : z = u := Decidable.byContradiction (fun h => by have := i2 h; omega)
    have : z' = u := Decidable.byContradiction (fun h => by have := j2 h; omega)
    omega
  | succ n ih =>
    intro z z' hn z1 z2 z3 z4 hv g
    obtain ⟨i1, i2⟩ := uP_in hX (b := b) (w := w) _ u z (Nat.le_refl _) hu z1 z2
    obtain ⟨j1, j2⟩ := uP_in hX (b := b) (w := w) _ u z' (Nat.le_refl _) hu z3 z4
    have g2 := Gn_small hX hS hC hw (by omega) (fun q hq => by have := hM q hq; omega) g
    have e := Gn_U hX hS hC hw (by omega) g2
    by_cases c1 : z = u
    · have : z' = u := Decidable.byContradiction (fun h => by have := j2 h; rw [c1] at e; omega)
      omega
    by_cases c2 : z' = u
    · rw [c2] at e
      have := i2 c1
      omega
    have i3 := i2 c1
    have hp : ∀ q ∈ dn, uP X b w q.1 = uP X b w z → ∃ a a' i, Kd X a i q.1 ∧ Kd X a' i q.2 ∧ Gn (dn ++ an) a a' := by
      intro q hq hm
      have e2 := Gn_U hX hS hC hw (hC q hq).1 (Gn.of hq)
      rcases hT q hq with ⟨x, p, h1, h2⟩ | h | ⟨y, hy, j, h1, h2⟩
      · have h3 := hw.2 x p h1
        rw [← dp_U hX hS hw _ p (Nat.lt_succ_self _) (hS x p h1).2.1] at h3
        have h4 : w x = uP X b w z := by rcases h2 with h2 | h2 <;> rw [h2] at h3 <;> omega
        exact absurd (hv x p h1 (by omega) (by omega)) (fun z => z)
      · rw [h] at e2 hm
        have y0 := hY.2
        rcases Nat.lt_or_ge u n1 with c | c
        · have := (uP_in hX (b := b) (w := w) _ 0 u (Nat.le_refl _) (by omega) (Nat.zero_le _) (by omega)).1
          dsimp only at e2 hm
          omega
        · have := (uP_in hX (b := b) (w := w) _ n1 u (Nat.le_refl _) (by omega) c (by omega)).1
          dsimp only at e2 hm
          omega
      · obtain ⟨o1, o2, o3, o4⟩ := hO y hy
        refine ⟨y.1, y.2, j, ⟨o1, h1, by rw [h2]⟩, ⟨o2, by rw [← ga_eq o3]; exact h1, by rw [h2]⟩, Gn.of hy⟩
    rcases Gn_par hX hS hC hw (m := uP X b w z) (PR := fun _ a a' => Gn (dn ++ an) a a') (fun _ _ _ => Gn.sy) (fun _ _ _ _ => Gn.tr) hp g2 rfl with h | ⟨a, a', i, k1, k2, k3⟩
    · exact h
    · obtain ⟨a0, j0, q1, q2, q3, q4, q5, q6⟩ := par_ex hX _ u z (Nat.le_refl _) hu (by omega) z2
      obtain ⟨e1, e2⟩ := par_un hX q4 k1.1 q5 k1.2.1 (q6.trans k1.2.2.symm)
      obtain ⟨b0, t0, r1, r2, r3, r4, r5, r6⟩ := par_ex hX _ u z' (Nat.le_refl _) hu (by omega) z4
      obtain ⟨f1, f2⟩ := par_un hX r4 k2.1 r5 k2.2.1 (r6.trans k2.2.2.symm)
      have ua := uP_kid hX (b := b) (w := w) k1.1 k1.2.1
      rw [k1.2.2] at ua
      have ha := (uP_in hX (b := b) (w := w) _ u a (Nat.le_refl _) hu (by omega) (by omega)).1
      have := ih a a' (by omega) (by omega) (by omega) (by omega) (by omega) (fun x p h1 h2 h3 => hv x p h1 (by omega) h3) k3
      rw [← k1.2.2, ← k2.2.2, this]
