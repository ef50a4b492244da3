/-! the bound on the steps, 12: the run -/
def GoT (X : List Nat) (n1 f : Nat) : Prop := ∀ (S : SS) (dn : PL2) (top : Nat × Nat) (an : PL2) (rp : Nat → Nat) (j P K R c1 c0 : Nat) (rs : List Nat) (m : Nat), Ins X n1 S dn top an rp j (P + 1) K R c1 c0 rs → j < ga X top.1 → 34 ≤ f + (top :: an).length →
  ∃ sm' m' w' C n, goF f (sub' X (ko X top.1 j)) (sub' X (ko X top.2 j)) (smO X S) m 0 = some (sm', m', w', C, n) ∧
    ((w' = 0 ∧ ∃ (S' : SS) (dn' : PL2) (rp' : Nat → Nat) (K' R' d1 d0 : Nat) (rs' : List Nat), sm' = smO X S' ∧ m' + c1 = m + d1 ∧ Ins X n1 S' dn' top an rp' (j + 1) P K' R' d1 d0 rs' ∧ Up S S' ∧ (∀ q ∈ dn, q ∈ dn') ∧ New X S' dn dn' (ko X top.1 j) (ko X top.2 j) ∧ Ap X S' dn' (ko X top.1 j) (ko X top.2 j) ∧ C + 2 + 2 * c1 = 2 * d1 ∧ n + 30 * c0 ≤ 30 * d0) ∨
      (0 < w' ∧ w' ≤ 2 ∧ Fl P c1 c0 C n))
def FlL (X : List Nat) (a b j P c1 c0 C n : Nat) : Prop := ∃ W K R d1 d0, W + 3 * R + 3 * P ≤ 63 ∧ 2 * K + 2 * P + W ≤ 62 ∧ d1 ≤ K + G1 R ∧ d0 ≤ K + G0 R ∧ C + 2 * c1 ≤ 2 * d1 ∧ n + ko X a j + ko X b j + 30 * c0 ≤ (a + tl X a) + (b + tl X b) + 30 * d0
/-- behind a pair that can't be made alike nothing is done any more -/
theorem gs_ok {X : List Nat} (hX : BX X) {a b : Nat} (ha : a < X.length) (hb : b < X.length) (hg : gl X a = gl X b) (f : Nat) (sm : SM) (m : Nat) {w : Nat} (hw : 0 < w) : ∀ (k j : Nat), j + k = ga X a → ∃ n, goOnF (goF (f + 1)) k (sub' X a) (sub' X b) (ko X a j - a) (ko X b j - b) sm m w = some (sm, m, w, 2 * k, n) ∧ n + ko X a j + ko X b j ≤ (a + tl X a) + (b + tl X b)
  | 0, j, hj => by
    have l1 := ko_last hX ha
    have l2 := ko_last hX hb
    rw [← ga_eq hg] at l2
    rw [Nat.add_zero] at hj
    rw [hj]
    exact ⟨0, rfl, by omega⟩
  | k + 1, j, hj => by
    have j1 : j < ga X a := by omega
    have j2 : j < ga X b := by rw [← ga_eq hg]; exact j1
    obtain ⟨a1, a2, a3, a4, a5⟩ := ko_mono hX ha j1
    obtain ⟨b1, b2, b3, b4, b5⟩ := ko_mono hX hb j2
    obtain ⟨s1, s2⟩ := sub_sub hX ha (show a ≤ ko X a j by omega) a2
    obtain ⟨t1, t2⟩ := sub_sub hX hb (show b ≤ ko X b j by omega) b2
    have k1 : ko X a (j + 1) = ko X a j + tl X (ko X a j) := rfl
    have k2 : ko X b (j + 1) = ko X b j + tl X (ko X b j) := rfl
    obtain ⟨n, h1, h2⟩ := gs_ok hX ha hb hg f sm m hw k (j + 1) (by omega)
    refine ⟨tl X (ko X a j) + tl X (ko X b j) + 0 + n, ?_, by omega⟩
    show (match goF (f + 1) (sub' (sub' X a) (ko X a j - a)) (sub' (sub' X b) (ko X b j - b)) sm m w with
      | none => none
      | some (sm1, m1, w1, c1, n1) => match goOnF (goF (f + 1)) k (sub' X a) (sub' X b) (ko X a j - a + tl (sub' X a) (ko X a j - a)) (ko X b j - b + tl (sub' X b) (ko X b j - b)) sm1 m1 w1 with
        | none => none
        | some (sm2, m2, w2, c2, n2) => some (sm2, m2, w2, 2 + c1 + c2, tl (sub' X a) (ko X a j - a) + tl (sub' X b) (ko X b j - b) + n1 + n2)) = _
    rw [goF_skip f _ _ sm m hw]
    dsimp only
    rw [s1, t1, show ko X a j - a + tl X (ko X a j) = ko X a (j + 1) - a by omega, show ko X b j - b + tl X (ko X b j) = ko X b (j + 1) - b by omega, h1]
    dsimp only
    rw [show 2 + 0 + 2 * k = 2 * (k + 1) by omega]
theorem New.to {X : List Nat} (hX : BX X) {S S' : SS} (hS : S1 X S) (hS' : S1 X S') (hU : Up S S') {dn dn1 dn' : PL2} {a b j : Nat} (ha : a < X.length) (hb : b < X.length) (hg : gl X a = gl X b) (hj : j < ga X a) (hO : Ok2 X dn1) (hd : ∀ q ∈ dn1, q ∈ dn') (h1 : New X S dn dn1 (ko X a j) (ko X b j)) (h2 : NewL X S' dn1 dn' a b) : NewL X S' dn dn' a b := by
  intro z hz
  rcases h2 z hz with y | y
  · rcases h1 z y with t | ⟨t1, t2⟩
    · exact Or.inl t
    · obtain ⟨o1, o2, o3, o4⟩ := hO z y
      refine Or.inr ⟨fun c w hw => ?_, ?_⟩
      · have := t1 c w (VW_up hU hw)
        have := uP_kid hX (b := c) (w := w) ha hj
        have := uP_kid hX (b := c) (w := w) hb (show j < ga X b by rw [← ga_eq hg]; exact hj)
        omega
      · rcases t2 with t | ⟨y', y1, i, y2, y3⟩ | t
        · exact Or.inl (t.up hX hS hS' hU o4 o3)
        · exact Or.inr (Or.inl ⟨y', hd y' y1, i, y2, y3⟩)
        · exact Or.inr (Or.inr ⟨j, hj, t⟩)
  · exact Or.inr y
set_option maxHeartbeats 4000000 in
theorem lp_ok {X : List Nat} {n1 : Nat} (hY : BY X n1) {f : Nat} (IH : GoT X n1 f) : ∀ (k j : Nat) (S : SS) (dn : PL2) (a b : Nat) (an : PL2) (rp : Nat → Nat) (P K R c1 c0 : Nat) (rs : List Nat) (m : Nat), Ins X n1 S dn (a, b) an rp j (P + k) K R c1 c0 rs → j + k = ga X a → 34 ≤ f + ((a, b) :: an).length → (∀ i, i < j → Ap X S dn (ko X a i) (ko X b i)) →
    ∃ sm' m' w' C n, goOnF (goF f) k (sub' X a) (sub' X b) (ko X a j - a) (ko X b j - b) (smO X S) m 0 = some (sm', m', w', C, n) ∧
      ((w' = 0 ∧ ∃ (S' : SS) (dn' : PL2) (rp' : Nat → Nat) (K' R' d1 d0 : Nat) (rs' : List Nat), sm' = smO X S' ∧ m' + c1 = m + d1 ∧ Ins X n1 S' dn' (a, b) an rp' (ga X a) P K' R' d1 d0 rs' ∧ Up S S' ∧ (∀ q ∈ dn, q ∈ dn') ∧ NewL X S' dn dn' a b ∧ (∀ i, i < ga X a → Ap X S' dn' (ko X a i) (ko X b i)) ∧ C + 2 * c1 = 2 * d1 ∧ n + ko X a j + ko X b j + 30 * c0 ≤ (a + tl X a) + (b + tl X b) + 30 * d0) ∨
        (0 < w' ∧ w' ≤ 2 ∧ FlL X a b j P c1 c0 C n)) := by
  have hX := hY.1
  intro k
  induction k with
  | zero =>
    intro j S dn a b an rp P K R c1 c0 rs m I hj hf hA
    obtain ⟨t1, t2, t3, t4⟩ := I.hd
    have l1 := ko_last hX t1
    have l2 := ko_last hX t2
    rw [← ga_eq t3] at l2
    dsimp only at l1 l2
    rw [Nat.add_zero] at hj I
    subst hj
    refine ⟨smO X S, m, 0, 0, 0, rfl, Or.inl ⟨rfl, S, dn, rp, K, R, c1, c0, rs, rfl, rfl, I, Up.rf S, fun _ h => h, fun z hz => Or.inl hz, hA, by omega, by omega⟩⟩
  | succ k ih =>
    intro j S dn a b an rp P K R c1 c0 rs m I hj hf hA
    obtain ⟨t1, t2, t3, t4⟩ := I.hd
    dsimp only at t1 t2 t3 t4
    have j1 : j < ga X a := by omega
    have j2 : j < ga X b := by rw [← ga_eq t3]; exact j1
    obtain ⟨a1, a2, a3, a4, a5⟩ := ko_mono hX t1 j1
    obtain ⟨b1, b2, b3, b4, b5⟩ := ko_mono hX t2 j2
    obtain ⟨s1, s2⟩ := sub_sub hX t1 (show a ≤ ko X a j by omega) a2
    obtain ⟨r1, r2⟩ := sub_sub hX t2 (show b ≤ ko X b j by omega) b2
    have k1 : ko X a (j + 1) = ko X a j + tl X (ko X a j) := rfl
    have k2 : ko X b (j + 1) = ko X b j + tl X (ko X b j) := rfl
    rw [← Nat.add_assoc] at I
    obtain ⟨sm1, m1, w1, C1, n1', run1, res1⟩ := IH S dn (a, b) an rp j (P + k) K R c1 c0 rs m I j1 hf
    dsimp only at run1 res1
    have e0 : ∀ sm2 m2 w2 C2 n2, goOnF (goF f) k (sub' X a) (sub' X b) (ko X a (j + 1) - a) (ko X b (j + 1) - b) sm1 m1 w1 = some (sm2, m2, w2, C2, n2) → goOnF (goF f) (k + 1) (sub' X a) (sub' X b) (ko X a j - a) (ko X b j - b) (smO X S) m 0 = some (sm2, m2, w2, 2 + C1 + C2, tl X (ko X a j) + tl X (ko X b j) + n1' + n2) := by
      intro sm2 m2 w2 C2 n2 h
      show (match goF f (sub' (sub' X a) (ko X a j - a)) (sub' (sub' X b) (ko X b j - b)) (smO X S) m 0 with
        | none => none
        | some (sm1, m1, w1, c1, n1) => match goOnF (goF f) k (sub' X a) (sub' X b) (ko X a j - a + tl (sub' X a) (ko X a j - a)) (ko X b j - b + tl (sub' X b) (ko X b j - b)) sm1 m1 w1 with
          | none => none
          | some (sm2, m2, w2, c2, n2) => some (sm2, m2, w2, 2 + c1 + c2, tl (sub' X a) (ko X a j - a) + tl (sub' X b) (ko X b j - b) + n1 + n2)) = _
      rw [s2, r2, s1, r1, run1]
      dsimp only
      rw [show ko X a j - a + tl X (ko X a j) = ko X a (j + 1) - a by omega, show ko X b j - b + tl X (ko X b j) = ko X b (j + 1) - b by omega, h]
    rcases res1 with ⟨rfl, S2, dn2, rp2, K2, R2, d1, d0, rs2, rfl, hm, I2, U2, D2, N2, A2, hC, hn⟩ | ⟨w0, w2, W, K2, R2, d1, d0, f1, f2, f3, f4, f5, f6⟩
    · have hA2 : ∀ i, i < j + 1 → Ap X S2 dn2 (ko X a i) (ko X b i) := by
        intro i hi
        rcases Nat.lt_or_ge i j with c | c
        · exact (hA i c).up2 hX I.1.1 I2.1.1 U2 D2 (ko_mono hX t1 (by omega)).2.2.2.2 (ko_mono hX t2 (by omega)).2.2.2.2
        · have : i = j := by omega
          rw [this]; exact A2
      obtain ⟨sm3, m3, w3, C3, n3, run3, res3⟩ := ih (j + 1) S2 dn2 a b an rp2 P K2 R2 d1 d0 rs2 m1 I2 (by omega) hf hA2
      refine ⟨sm3, m3, w3, _, _, e0 _ _ _ _ _ run3, ?_⟩
      rcases res3 with ⟨rfl, S3, dn3, rp3, K3, R3, x1, x0, rs3, rfl, hm3, I3, U3, D3, N3, A3, hC3, hn3⟩ | ⟨w0, w2, W, K3, R3, x1, x0, f1, f2, f3, f4, f5, f6⟩
      · exact Or.inl ⟨rfl, S3, dn3, rp3, K3, R3, x1, x0, rs3, rfl, by omega, I3, U2.tr U3, fun q hq => D3 q (D2 q hq), N2.to hX I2.1.1 I3.1.1 U3 t1 t2 t3 j1 I2.ok2 D3 N3, A3, by omega, by omega⟩
      · exact Or.inr ⟨w0, w2, W, K3, R3, x1, x0, f1, f2, f3, f4, by omega, by omega⟩
    · have hf1 : ((a, b) :: an).length ≤ X.length := by
        have := nodup_le X.length _ I.2.2.2.2.1 (fun c hc => by
          obtain ⟨y, hy, e⟩ := List.mem_map.mp hc
          rw [← e]
          exact (I.1.2.2.2.1 y (List.mem_append_right _ hy)).1)
        rw [List.length_map] at this
        exact this
      have hl := hX.2.2
      obtain ⟨f', hf'⟩ : ∃ f', f = f' + 1 := ⟨f - 1, by omega⟩
      subst hf'
      obtain ⟨n3, run3, h3⟩ := gs_ok hX t1 t2 t3 f' sm1 m1 w0 k (j + 1) (by omega)
      refine ⟨sm1, m1, w1, _, _, e0 _ _ _ _ _ run3, Or.inr ⟨w0, w2, W, K2 + k, R2, d1 + k, d0, by omega, by omega, by omega, by omega, by omega, by omega⟩⟩
