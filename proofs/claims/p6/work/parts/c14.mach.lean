/-! two terms made alike by steps: pairs on a stack do what the reference's calls do -/
/-- the pairs of the parts from the j-th on -/
def kdL (X : List Nat) (a b : Nat) : Nat → Nat → PL2
  | 0, _ => []
  | k + 1, j => (ko X a j, ko X b j) :: kdL X a b k (j + 1)
theorem kdL_len (X : List Nat) (a b : Nat) : ∀ k j, (kdL X a b k j).length = k
  | 0, _ => rfl
  | k + 1, j => by
    show (kdL X a b k (j + 1)).length + 1 = k + 1
    rw [kdL_len X a b k (j + 1)]
/-- what a step does with the next pair: what stands for names, how it ends, what waits ahead of the others -/
def stepM (X : List Nat) (S : SS) (p q : Nat) : SS × Nat × PL2 :=
  if gl X (dp X S p) < 10 then
    (if gl X (dp X S q) < 10 then (if gl X (dp X S q) < gl X (dp X S p) then (upS S (gl X (dp X S p)) (dp X S q), 0, []) else if gl X (dp X S p) < gl X (dp X S q) then (upS S (gl X (dp X S q)) (dp X S p), 0, []) else (S, 0, []))
     else (if isWi (smO X S) (gl X (dp X S p)) (sub' X (dp X S q)) then (S, 2, []) else (upS S (gl X (dp X S p)) (dp X S q), 0, [])))
  else if gl X (dp X S q) < 10 then (if isWi (smO X S) (gl X (dp X S q)) (sub' X (dp X S p)) then (S, 2, []) else (upS S (gl X (dp X S q)) (dp X S p), 0, []))
  else if gl X (dp X S p) = gl X (dp X S q) then (S, 0, kdL X (dp X S p) (dp X S q) (ga X (dp X S p)) 0) else (S, 1, [])
/-- steps until no pair waits, or it can't be: what stands, how it ends, how many steps -/
def runM (X : List Nat) : Nat → SS → Nat → PL2 → Option (SS × Nat × Nat)
  | _, S, m, [] => some (S, 0, m)
  | 0, _, _, _ :: _ => none
  | n + 1, S, m, z :: r => if 126 ≤ r.length then none else
      if (stepM X S z.1 z.2).2.1 = 0 then runM X n (stepM X S z.1 z.2).1 (m + 1) ((stepM X S z.1 z.2).2.2 ++ r) else some ((stepM X S z.1 z.2).1, (stepM X S z.1 z.2).2.1, m + 1)
theorem runM_nil (X : List Nat) (n : Nat) (S : SS) (m : Nat) : runM X n S m [] = some (S, 0, m) := by cases n <;> rfl
theorem runM_cons (X : List Nat) (n : Nat) (S : SS) (m p q : Nat) (r : PL2) (h : r.length < 126) : runM X (n + 1) S m ((p, q) :: r) =
    if (stepM X S p q).2.1 = 0 then runM X n (stepM X S p q).1 (m + 1) ((stepM X S p q).2.2 ++ r) else some ((stepM X S p q).1, (stepM X S p q).2.1, m + 1) := by
  rw [runM, if_neg (by omega)]
theorem goOnF_w (f : Nat) : ∀ (k : Nat) (a b : List Nat) (i j : Nat) (sm : SM) (m w : Nat) (G : GS), 0 < w → goOnF (goF f) k a b i j sm m w = some G → G.1 = sm ∧ G.2.1 = m ∧ G.2.2.1 = w := by
  intro k
  induction k with
  | zero =>
    intro a b i j sm m w G hw h
    simp only [goOnF, Option.some.injEq] at h
    subst h
    exact ⟨rfl, rfl, rfl⟩
  | succ k ih =>
    intro a b i j sm m w G hw h
    cases f with
    | zero =>
      rw [goOnF] at h
      simp [goF] at h
    | succ f =>
      rw [goOnF, goF_skip f _ _ sm m hw] at h
      dsimp only at h
      cases e : goOnF (goF (f + 1)) k a b (i + tl a i) (j + tl b j) sm m w with
      | none => rw [e] at h; cases h
      | some G2 =>
        rw [e] at h
        have i2 := ih a b _ _ sm m w G2 hw e
        obtain ⟨s2, m2, w2, c2, n2⟩ := G2
        simp only [Option.some.injEq] at h
        subst h
        exact i2
def GoS (X : List Nat) (f : Nat) : Prop := ∀ (S : SS) (p q m : Nat) (G : GS), S1 X S → p < X.length → q < X.length → goF f (sub' X p) (sub' X q) (smO X S) m 0 = some G →
  ∃ S', S1 X S' ∧ G.1 = smO X S' ∧ m ≤ G.2.1 ∧ 2 * G.2.1 ≤ 2 * m + G.2.2.2.1 + 2 ∧ ∀ (r : PL2) (n : Nat), r.length + 2 * f ≤ 126 → runM X (n + (G.2.1 - m)) S m ((p, q) :: r) = if G.2.2.1 = 0 then runM X n S' G.2.1 r else some (S', G.2.2.1, G.2.1)
theorem goOn_sim {X : List Nat} (hX : BX X) {f : Nat} (IH : GoS X f) {a b : Nat} (ha : a < X.length) (hb : b < X.length) (hg : gl X a = gl X b) : ∀ (k j : Nat) (S : SS) (m : Nat) (G : GS), S1 X S → j + k = ga X a → goOnF (goF f) k (sub' X a) (sub' X b) (ko X a j - a) (ko X b j - b) (smO X S) m 0 = some G →
    ∃ S', S1 X S' ∧ G.1 = smO X S' ∧ m ≤ G.2.1 ∧ 2 * G.2.1 ≤ 2 * m + G.2.2.2.1 ∧ ∀ (r : PL2) (n : Nat), r.length + 2 * f + 2 ≤ 126 → runM X (n + (G.2.1 - m)) S m (kdL X a b k j ++ r) = if G.2.2.1 = 0 then runM X n S' G.2.1 r else some (S', G.2.2.1, G.2.1) := by
  have hgb : ga X b = ga X a := (ga_eq hg).symm
  have h3 := ga_le hX ha
  intro k
  induction k with
  | zero =>
    intro j S m G hS hj h
    simp only [goOnF, Option.some.injEq] at h
    subst h
    refine ⟨S, hS, rfl, Nat.le_refl _, by dsimp only; omega, fun r n hr => ?_⟩
    rw [if_pos rfl]
    show runM X (n + (m - m)) S m ([] ++ r) = runM X n S m r
    rw [Nat.sub_self, List.nil_append, Nat.add_zero]
  | succ k ih =>
    intro j S m G hS hj h
    obtain ⟨ka1, ka2, ka3, ka4, ka5⟩ := ko_mono hX ha (j := j) (by omega)
    obtain ⟨kb1, kb2, kb3, kb4, kb5⟩ := ko_mono hX hb (j := j) (by omega)
    obtain ⟨ta, sa⟩ := sub_sub hX ha (z := ko X a j) (by omega) ka2
    obtain ⟨tb, sb⟩ := sub_sub hX hb (z := ko X b j) (by omega) kb2
    rw [goOnF, ta, tb, sa, sb] at h
    cases e1 : goF f (sub' X (ko X a j)) (sub' X (ko X b j)) (smO X S) m 0 with
    | none => rw [e1] at h; cases h
    | some G1 =>
      obtain ⟨S1', q1, q2, q3, q4, q5⟩ := IH S _ _ m G1 hS ka5 kb5 e1
      obtain ⟨s1, m1, w1, c1, n1⟩ := G1
      rw [e1] at h
      dsimp only at h q2 q3 q4 q5
      subst q2
      rw [show ko X a j - a + tl X (ko X a j) = ko X a (j + 1) - a by show _ = ko X a j + tl X (ko X a j) - a; omega, show ko X b j - b + tl X (ko X b j) = ko X b (j + 1) - b by show _ = ko X b j + tl X (ko X b j) - b; omega] at h
      cases e2 : goOnF (goF f) k (sub' X a) (sub' X b) (ko X a (j + 1) - a) (ko X b (j + 1) - b) (smO X S1') m1 w1 with
      | none => rw [e2] at h; cases h
      | some G2 =>
        rcases Nat.eq_zero_or_pos w1 with hw | hw
        · subst hw
          obtain ⟨S2, z1, z2, z3, z4, z5⟩ := ih (j + 1) S1' m1 G2 q1 (by omega) e2
          obtain ⟨s2, m2, w2, c2, n2⟩ := G2
          rw [e2] at h
          simp only [Option.some.injEq] at h
          subst h
          dsimp only at z2 z3 z4 z5 ⊢
          refine ⟨S2, z1, z2, by omega, by omega, fun r n hr => ?_⟩
          show runM X (n + (m2 - m)) S m ((ko X a j, ko X b j) :: (kdL X a b k (j + 1) ++ r)) = _
          rw [show n + (m2 - m) = (n + (m2 - m1)) + (m1 - m) by omega, q5 (kdL X a b k (j + 1) ++ r) (n + (m2 - m1)) (by rw [List.length_append, kdL_len]; omega), if_pos rfl]
          exact z5 r n hr
        · have z := goOnF_w f k _ _ _ _ _ _ _ G2 hw e2
          obtain ⟨s2, m2, w2, c2, n2⟩ := G2
          rw [e2] at h
          simp only [Option.some.injEq] at h
          subst h
          dsimp only at z ⊢
          obtain ⟨rfl, rfl, rfl⟩ := z
          refine ⟨S1', q1, rfl, q3, by omega, fun r n hr => ?_⟩
          show runM X (n + (m2 - m)) S m ((ko X a j, ko X b j) :: (kdL X a b k (j + 1) ++ r)) = _
          rw [q5 (kdL X a b k (j + 1) ++ r) n (by rw [List.length_append, kdL_len]; omega), if_neg (by omega), if_neg (by omega)]
theorem run1 {X : List Nat} {S S' : SS} {p q w m n : Nat} {r : PL2} (h : stepM X S p q = (S', w, [])) (hr : r.length < 126) : runM X (n + (m + 1 - m)) S m ((p, q) :: r) = if w = 0 then runM X n S' (m + 1) r else some (S', w, m + 1) := by
  rw [show n + (m + 1 - m) = n + 1 by omega, runM_cons X n S m p q r hr, h]
  rfl
theorem go_sim {X : List Nat} (hX : BX X) : ∀ f, GoS X f := by
  intro f
  induction f with
  | zero =>
    intro S p q m G hS hp hq h
    rw [goF] at h
    cases h
  | succ f IH =>
    intro S p q m G hS hp hq h
    obtain ⟨d1, d2, d3⟩ := dp_ok hX hS hp
    obtain ⟨d4, d5, d6⟩ := dp_ok hX hS hq
    obtain ⟨z0, hz⟩ : ∃ z0, z0 = stepM X S p q := ⟨_, rfl⟩
    have st := hz
    unfold stepM at st
    have s1 := sub_cons hX d3
    have s2 := sub_cons hX d6
    rw [s1] at d1
    rw [s2] at d4
    rw [goF_0 f _ _ _ m d1 d4] at h
    by_cases hx : gl X (dp X S p) < 10
    · have hx8 := gl_8 hX d3 hx
      rw [if_pos hx] at h st
      by_cases hy : gl X (dp X S q) < 10
      · have hy8 := gl_8 hX d6 hy
        rw [if_pos hy] at h st
        simp only [Option.some.injEq] at h
        rcases Nat.lt_trichotomy (gl X (dp X S q)) (gl X (dp X S p)) with c | c | c
        · rw [if_pos c] at st
          rw [if_neg (by omega), if_neg (by omega), ← s2, Nat.max_eq_left (by omega), smO_set X S hx8] at h
          subst h
          exact ⟨_, S1_up hS hx8 d6 (fun _ => c), rfl, Nat.le_succ _, by dsimp only; omega, fun r n hr => run1 (hz.symm.trans st) (by omega)⟩
        · rw [if_neg (by omega), if_neg (by omega)] at st
          rw [if_pos c.symm] at h
          subst h
          exact ⟨S, hS, rfl, Nat.le_succ _, by dsimp only; omega, fun r n hr => run1 (hz.symm.trans st) (by omega)⟩
        · rw [if_neg (by omega), if_pos c] at st
          rw [if_neg (by omega), if_pos c, ← s1, Nat.max_eq_right (by omega), smO_set X S hy8] at h
          subst h
          exact ⟨_, S1_up hS hy8 d3 (fun _ => c), rfl, Nat.le_succ _, by dsimp only; omega, fun r n hr => run1 (hz.symm.trans st) (by omega)⟩
      · rw [if_neg hy] at h st
        simp only [Option.some.injEq] at h
        rw [← s2] at h
        unfold bindF at h
        by_cases hw : isWi (smO X S) (gl X (dp X S p)) (sub' X (dp X S q)) = true
        · rw [if_pos hw] at h st
          subst h
          exact ⟨S, hS, rfl, Nat.le_succ _, by dsimp only; omega, fun r n hr => run1 (hz.symm.trans st) (by omega)⟩
        · rw [if_neg hw] at h st
          rw [smO_set X S hx8] at h
          subst h
          exact ⟨_, S1_up hS hx8 d6 (fun z => absurd z hy), rfl, Nat.le_succ _, by dsimp only; omega, fun r n hr => run1 (hz.symm.trans st) (by omega)⟩
    · rw [if_neg hx] at h st
      by_cases hy : gl X (dp X S q) < 10
      · have hy8 := gl_8 hX d6 hy
        rw [if_pos hy] at h st
        simp only [Option.some.injEq] at h
        rw [← s1] at h
        unfold bindF at h
        by_cases hw : isWi (smO X S) (gl X (dp X S q)) (sub' X (dp X S p)) = true
        · rw [if_pos hw] at h st
          subst h
          exact ⟨S, hS, rfl, Nat.le_succ _, by dsimp only; omega, fun r n hr => run1 (hz.symm.trans st) (by omega)⟩
        · rw [if_neg hw] at h st
          rw [smO_set X S hy8] at h
          subst h
          exact ⟨_, S1_up hS hy8 d3 (fun z => absurd z hx), rfl, Nat.le_succ _, by dsimp only; omega, fun r n hr => run1 (hz.symm.trans st) (by omega)⟩
      · rw [if_neg hy] at h st
        by_cases hxy : gl X (dp X S p) = gl X (dp X S q)
        · rw [if_pos hxy] at h st
          rw [← s1, ← s2, show (1 : Nat) = ko X (dp X S p) 0 - dp X S p by show 1 = dp X S p + 1 - dp X S p; omega] at h
          rw [show goOnF (goF f) (pF (gl X (dp X S p))) (sub' X (dp X S p)) (sub' X (dp X S q)) (ko X (dp X S p) 0 - dp X S p) (ko X (dp X S p) 0 - dp X S p) (smO X S) (m + (ko X (dp X S p) 0 - dp X S p)) 0 = goOnF (goF f) (ga X (dp X S p)) (sub' X (dp X S p)) (sub' X (dp X S q)) (ko X (dp X S p) 0 - dp X S p) (ko X (dp X S q) 0 - dp X S q) (smO X S) (m + 1) 0 by
            rw [show ko X (dp X S p) 0 - dp X S p = 1 by show dp X S p + 1 - dp X S p = 1; omega, show ko X (dp X S q) 0 - dp X S q = 1 by show dp X S q + 1 - dp X S q = 1; omega]
            rfl] at h
          obtain ⟨S', q1, q2, q3, q4, q5⟩ := goOn_sim hX IH d3 d6 hxy (ga X (dp X S p)) 0 S (m + 1) G hS (Nat.zero_add _) h
          refine ⟨S', q1, q2, by omega, by omega, fun r n hr => ?_⟩
          rw [show n + (G.2.1 - m) = (n + (G.2.1 - (m + 1))) + 1 by omega, runM_cons X _ S m p q r (by omega), ← hz, st, if_pos rfl]
          exact q5 r n (by omega)
        · rw [if_neg hxy] at h st
          simp only [Option.some.injEq] at h
          subst h
          exact ⟨S, hS, rfl, Nat.le_succ _, by dsimp only; omega, fun r n hr => run1 (hz.symm.trans st) (by omega)⟩
theorem smO_Ac {X : List Nat} (hX : BX X) {S S2 : SS} (hS : S1 X S) (hS2 : S1 X S2) (e : smO X S = smO X S2) (hA : Ac X S2) : Ac X S := by
  obtain ⟨rk, K, h1, h2⟩ := hA
  refine ⟨rk, K, h1, fun x q hq i hi hn => ?_⟩
  obtain ⟨hx8, hql, -⟩ := hS x q hq
  have g1 := smO_get X S hx8
  rw [e, smO_get X S2 hx8, hq] at g1
  cases hq2 : S2 x with
  | none => rw [hq2] at g1; cases g1
  | some q2 =>
    obtain ⟨-, hq2l, -⟩ := hS2 x q2 hq2
    rw [hq2] at g1
    have es : sub' X q2 = sub' X q := Option.some.inj g1
    have el : tl X q2 = tl X q := by rw [← sub_len hX hq2l, ← sub_len hX hql, es]
    have eg : gl X (q2 + i) = gl X (q + i) := by
      have a1 := bx_tl hX hq2l
      have a2 := bx_tl hX hql
      have b1 : (sub' X q2)[i]? = some (gl X (q2 + i)) := by
        unfold sub'
        rw [List.getElem?_take_of_lt (by omega), List.getElem?_drop]
        exact gl_get (by omega)
      have b2 : (sub' X q)[i]? = some (gl X (q + i)) := by
        unfold sub'
        rw [List.getElem?_take_of_lt (by omega), List.getElem?_drop]
        exact gl_get (by omega)
      rw [es, b2] at b1
      exact (Option.some.inj b1).symm
    rw [← eg]
    exact h2 x q2 hq2 i (by omega) (by rw [eg]; exact hn)
/-- the steps of two terms: the stack's run and the reference's -/
theorem runM_ok {one other : List Nat} (t1 : TW one ∧ one.length ≤ 16) (t2 : TW other ∧ other.length ≤ 16) : ∃ (G : GS) (S : SS), goF 40 one other none8 0 0 = some G ∧ GoE one other G ∧ S1 (one ++ other) S ∧ G.1 = smO (one ++ other) S ∧ G.2.1 ≤ 4211 ∧ (G.2.2.1 = 0 → Ac (one ++ other) S) ∧
    runM (one ++ other) G.2.1 sN 0 [(0, one.length)] = some (S, G.2.2.1, G.2.1) := by
  obtain ⟨G, g1, g2⟩ := goE t1 t2
  obtain ⟨bY, e1, e2⟩ := BY_of t1 t2
  have hS0 : S1 (one ++ other) sN := fun x q h => by cases h
  have h0 : 0 < (one ++ other).length := by have := bY.2.1; have := bY.2.2.2.1; omega
  obtain ⟨S', q1, q2, q3, q4, q5⟩ := go_sim bY.1 40 sN 0 one.length 0 G hS0 h0 bY.2.2.2.1 (by rw [e1, e2, ← none8_smO]; exact g1)
  have g3 := g2.2.1
  refine ⟨G, S', g1, g2, q1, q2, by omega, fun hw => ?_, ?_⟩
  · obtain ⟨S2, z1, z2, z3, -⟩ := g2.2.2.2 hw
    exact smO_Ac bY.1 q1 z2 (q2.symm.trans z1) z3
  · have := q5 [] 0 (by decide)
    rw [Nat.zero_add, Nat.sub_zero] at this
    rw [this, runM_nil]
    split
    · rename_i hw
      rw [hw]
    · rfl
