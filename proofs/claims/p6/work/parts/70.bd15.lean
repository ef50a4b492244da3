/-! the bound on the steps, 15: what two terms cost at most; what is told of a name in the end -/
/-- how the steps of two terms end: what stands for the names, cells, slots -/
def GoE (one other : List Nat) (G : GS) : Prop := G.2.2.1 ≤ 2 ∧ G.2.2.2.1 ≤ 8420 ∧ G.2.2.2.2 ≤ 97110 ∧
  (G.2.2.1 = 0 → ∃ S, G.1 = smO (one ++ other) S ∧ S1 (one ++ other) S ∧ Ac (one ++ other) S ∧ G.2.2.2.1 ≤ 62 + 2 * H1 (cnS (one ++ other) S) ∧ G.2.2.2.2 ≤ 30 * (31 + H0 (cnS (one ++ other) S)))
theorem none8_smO (X : List Nat) : none8 = smO X sN := rfl
theorem Hc_le (c : Nat) : H1 c ≤ 4000 ∧ H0 c ≤ 3000 := by
  rcases Nat.lt_or_ge c 9 with h | h
  · revert c
    decide
  · unfold H1 H0
    rw [List.getD_eq_getElem?_getD, List.getD_eq_getElem?_getD, List.getElem?_eq_none (by simpa using h), List.getElem?_eq_none (by simpa using h)]
    exact ⟨Nat.zero_le _, Nat.zero_le _⟩
set_option maxHeartbeats 4000000 in
theorem goE {one other : List Nat} (h1 : TW one ∧ one.length ≤ 16) (h2 : TW other ∧ other.length ≤ 16) : ∃ G : GS, goF 40 one other none8 0 0 = some G ∧ GoE one other G := by
  obtain ⟨hY, s1, s2⟩ := BY_of h1 h2
  generalize hn1 : one.length = n1 at hY s2
  have hX := hY.1
  have y := hY.2
  have h0N : 0 < (one ++ other).length := by omega
  have h1N : n1 < (one ++ other).length := by omega
  generalize hXX : one ++ other = X at *
  suffices hh : ∃ G : GS, goF 40 (sub' X 0) (sub' X n1) (smO X sN) 0 0 = some G ∧ GoE one other G by
    rw [s1, s2, ← none8_smO X] at hh
    exact hh
  have hS : S1 X sN := (Inv_0 X).1
  have d0 : dp X sN 0 = 0 := dp_free (fun _ => rfl)
  have d1 : dp X sN n1 = n1 := dp_free (fun _ => rfl)
  have e0 := (dp_ok hX hS h0N).1
  have e1 := (dp_ok hX hS h1N).1
  rw [d0] at e0
  rw [d1] at e1
  have g0 := goF_0 39 (sub' X 0) (sub' X n1) (smO X sN) 0 (e0.trans (congrArg some (sub_cons hX h0N))) (e1.trans (congrArg some (sub_cons hX h1N)))
  rw [← sub_cons hX h0N, ← sub_cons hX h1N] at g0
  have simple : ∀ S m, Inv X S [] [] (fun x => x) → goF 40 (sub' X 0) (sub' X n1) (smO X sN) 0 0 = some (smO X S, m, 0, 0, 0) → ∃ G : GS, goF 40 (sub' X 0) (sub' X n1) (smO X sN) 0 0 = some G ∧ GoE one other G := fun S m I hr =>
    ⟨_, hr, Nat.zero_le _, Nat.zero_le _, Nat.zero_le _, fun _ => by
      rw [hXX]
      exact ⟨S, rfl, I.1, I.2.1, Nat.zero_le _, Nat.zero_le _⟩⟩
  have fail : ∀ w, 0 < w → w ≤ 2 → ∀ sm m, goF 40 (sub' X 0) (sub' X n1) (smO X sN) 0 0 = some (sm, m, w, 0, 0) → ∃ G : GS, goF 40 (sub' X 0) (sub' X n1) (smO X sN) 0 0 = some G ∧ GoE one other G := fun w w1 w2 sm m hr =>
    ⟨_, hr, w2, Nat.zero_le _, Nat.zero_le _, fun z => by
      have : w = 0 := z
      omega⟩
  have I0 := Inv_0 X
  by_cases hx : gl X 0 < 10
  · rw [if_pos hx] at g0
    have x8 := gl_8 hX h0N hx
    by_cases hy : gl X n1 < 10
    · rw [if_pos hy] at g0
      have y8 := gl_8 hX h1N hy
      by_cases e : gl X 0 = gl X n1
      · rw [if_pos e] at g0
        exact simple _ _ I0 g0
      · rw [if_neg e] at g0
        by_cases l : gl X 0 < gl X n1
        · rw [if_pos l, show max (gl X 0) (gl X n1) = gl X n1 by omega, smO_set X sN y8] at g0
          exact simple _ _ (I0.bindN hX y8 rfl h0N l rfl) g0
        · rw [if_neg l, show max (gl X 0) (gl X n1) = gl X 0 by omega, smO_set X sN x8] at g0
          exact simple _ _ (I0.bindN hX x8 rfl h1N (by omega) rfl) g0
    · rw [if_neg hy] at g0
      unfold bindF at g0
      cases hw : isWi (smO X sN) (gl X 0) (sub' X n1) with
      | true =>
        rw [hw, if_pos rfl] at g0
        exact fail 2 (by omega) (by omega) _ _ g0
      | false =>
        rw [hw, if_neg (by decide), smO_set X sN x8] at g0
        exact simple _ _ (I0.bindW hY x8 rfl h1N (by omega) hw) g0
  · rw [if_neg hx] at g0
    by_cases hy : gl X n1 < 10
    · rw [if_pos hy] at g0
      have y8 := gl_8 hX h1N hy
      unfold bindF at g0
      cases hw : isWi (smO X sN) (gl X n1) (sub' X 0) with
      | true =>
        rw [hw, if_pos rfl] at g0
        exact fail 2 (by omega) (by omega) _ _ g0
      | false =>
        rw [hw, if_neg (by decide), smO_set X sN y8] at g0
        exact simple _ _ (I0.bindW hY y8 rfl h0N (by omega) hw) g0
    · rw [if_neg hy] at g0
      by_cases e : gl X 0 = gl X n1
      · rw [if_pos e] at g0
        rcases Nat.eq_zero_or_pos (ga X 0) with z | z
        · rw [show pF (gl X 0) = 0 from z] at g0
          exact simple _ _ I0 g0
        · have hne : (fun x : Nat => x) 0 ≠ (fun x : Nat => x) n1 := by
            show (0 : Nat) ≠ n1
            omega
          obtain ⟨hI, hW⟩ := un_ok I0 h0N h1N e z hne
          have hsum := ga_sum hY
          have hW0 : Wt X (fun x => x) = 2 * sJ (ga X) X.length := by
            rw [← sJ_two]
            exact sJ_congr (fun c _ => if_pos rfl)
          have h32 := hX.2.2
          have nb0 : nbS sN = 0 := rfl
          have J : Ins X n1 sN [] (0, n1) [] (un (fun x => x) 0 n1) 0 (0 + ga X 0) 1 0 1 1 [] := by
            refine ⟨hI, fun q h => (by cases h), fun g => ?_, List.mem_cons_self, by simp, fun b w _ q h => (by cases h), ⟨by omega, by omega⟩, ?_⟩
            · have g' : Gn ([] : PL2) 0 n1 := g
              exact hne ((I0.2.2.2.2.1 0 n1).mpr g')
            · exact ⟨by show 1 ≤ 1 + 0; omega, by show 1 ≤ 1 + 0; omega, rfl, fun t h => (by cases h), fun w _ => by simp, fun w _ => by simp⟩
          obtain ⟨sm', m', w', C, n, run, res⟩ := lp_ok hY (go_ok hY 39) (ga X 0) 0 sN [] 0 n1 [] _ 0 1 0 1 1 [] 1 J (by omega) (by show 34 ≤ 39 + 1; omega) (fun i hi => absurd hi (Nat.not_lt_zero i))
          have kk1 : ko X 0 0 = 1 := rfl
          have kk2 : ko X n1 0 = n1 + 1 := rfl
          rw [kk1, kk2, show 1 - 0 = 1 by omega, show n1 + 1 - n1 = 1 by omega] at run
          have g1 := g0.trans run
          refine ⟨_, g1, ?_⟩
          rcases res with ⟨rfl, S', dn', rp', K', R', x1, x0, rs', rfl, hm, I2, hU, hD, hN, hA, hC, hn⟩ | ⟨v0, v2, W, K', R', x1, x0, f1, f2, f3, f4, f5, f6⟩
          · obtain ⟨b1, b0⟩ := end_ok hY I2 hA
            have hc := Hc_le (cnS X S')
            refine ⟨Nat.zero_le _, ?_, ?_, fun _ => ?_⟩
            · show C ≤ 8420
              omega
            · show n ≤ 97110
              omega
            · rw [hXX]
              refine ⟨S', rfl, I2.1.1, I2.1.2.1, ?_, ?_⟩
              · show C ≤ _
                omega
              · show n ≤ _
                omega
          · have q1 := Gfin_le G1_fin (show R' < 22 by omega)
            have q0 := Gfin_le G0_fin (show R' < 22 by omega)
            refine ⟨v2, ?_, ?_, fun zz => ?_⟩
            · show C ≤ 8420
              omega
            · show n ≤ 97110
              omega
            · have : w' = 0 := zz
              omega
      · rw [if_neg e] at g0
        exact fail 1 (by omega) (by omega) _ _ g0
