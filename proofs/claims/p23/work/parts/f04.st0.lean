section Uf04st0
/-! a new object of the class holds the first state -/
def slI0 : List (List Nat) := [[0], [1], [2], [3], [4], [5]]
def rw0 : List (List Nat) := [[0], [1], [2], [3], [4], [5], [6], [7]]
def st0 : ST := (slI0, [rw0, rw0, rw0], 0, 0)
theorem sl0_get : ∀ j, j < 6 → slI0[j]? = some [j] := by decide
theorem rw0_get : ∀ j, j < 8 → rw0[j]? = some [j] := by decide
theorem st0_ok : StO st0 := ⟨rfl, fun z hz => by
  obtain ⟨j, hj⟩ := List.getElem?_of_mem hz
  have h6 : j < 6 := (List.getElem?_eq_some_iff.mp hj).1
  have hj' : slI0[j]? = some z := hj
  rw [sl0_get j h6] at hj'
  cases hj'
  exact ⟨TW.name (by omega), Nat.le_of_ble_eq_true rfl⟩, rfl, fun rows hr => by
  have hr' : rows ∈ [rw0, rw0, rw0] := hr
  have e : rows = rw0 := by simpa using hr'
  rw [e]
  exact AO_none⟩
theorem exBd : ∀ xs : List Nat, ∃ M, ∀ x ∈ xs, x < M
  | [] => ⟨0, fun x hx => by cases hx⟩
  | y :: r => by
    obtain ⟨M, hM⟩ := exBd r
    refine ⟨M + y + 1, fun x hx => ?_⟩
    rcases List.mem_cons.mp hx with rfl | hx
    · omega
    · have := hM x hx
      omega
def sgI (i : Nat) : Nat := if i < 30 then i + 22 else i - 30
def piI (j : Nat) : Nat := [0, 3, 4, 5, 1, 2, 6, 7, 8, 9].getD j 0
theorem piI_ok : ∀ j, j < 10 → piI j < 10 ∧ ∀ i, i < 10 → piI i = piI j → i = j := by decide
theorem nd_getD {xs : List Nat} (h : xs.Nodup) {i j : Nat} (hi : i < xs.length) (hj : j < xs.length) (e : xs.getD i 0 = xs.getD j 0) : i = j := by
  rw [List.getD_eq_getElem?_getD, List.getD_eq_getElem?_getD, List.getElem?_eq_getElem hi, List.getElem?_eq_getElem hj] at e
  exact (List.getElem_inj h).mp e
theorem mem_getD {xs : List Nat} {i : Nat} (hi : i < xs.length) : xs.getD i 0 ∈ xs := by
  rw [List.getD_eq_getElem?_getD, List.getElem?_eq_getElem hi]
  exact List.getElem_mem hi
theorem T4_get {T : List T4} {i : Nat} {x : T4} (h : T[i]? = some x) : (T.map (fun t => t.1)).getD i 0 = x.1 ∧ (T.map (fun t => t.2.1)).getD i 0 = x.2.1 := by
  rw [List.getD_eq_getElem?_getD, List.getD_eq_getElem?_getD, List.getElem?_map, List.getElem?_map, h]
  exact ⟨rfl, rfl⟩
/-- terms and rows that are apart make the class's layout -/
theorem KL_lay {ex : Nat → Prop} {h h' : AH} {T : List T4} {R : List (Nat × Nat)} (K : KL ex h h' T R) (hT : T.length = 52) (hR : R.length = 10) : ∃ B Q : Nat → Nat, LYO B Q ∧ (∀ i x, i < 52 → T[sgI i]? = some x → B i = x.1 ∧ Q i = x.2.1) ∧ ∀ j x, j < 10 → R[piI j]? = some x → Q (60 + j) = x.1 := by
  obtain ⟨k1, k2, k3, k4, k5, k6, k7⟩ := K
  obtain ⟨M, hM⟩ := exBd (T.map (fun t => t.2.1) ++ R.map (fun r => r.1))
  have l1 : (T.map (fun t => t.1)).length = 52 := by rw [List.length_map]; exact hT
  have l2 : (T.map (fun t => t.2.1)).length = 52 := by rw [List.length_map]; exact hT
  have l3 : (R.map (fun r => r.1)).length = 10 := by rw [List.length_map]; exact hR
  have sg : ∀ i, i < 52 → sgI i < 52 := fun i hi => by unfold sgI; split <;> omega
  have sgi : ∀ i j, i < 52 → j < 52 → sgI i = sgI j → i = j := fun i j hi hj e => by
    unfold sgI at e
    split at e <;> split at e <;> omega
  refine ⟨fun i => (T.map (fun t => t.1)).getD (sgI i) 0, fun i => if i < 52 then (T.map (fun t => t.2.1)).getD (sgI i) 0 else if i < 60 then M + i else (R.map (fun r => r.1)).getD (piI (i - 60)) 0, ⟨fun i j hi hj e => ?_, fun i j hi hj e => ?_⟩, fun i x hi hx => ?_, fun j x hj hx => ?_⟩
  · exact sgi i j hi hj (nd_getD k2 (by rw [l1]; exact sg i hi) (by rw [l1]; exact sg j hj) e)
  · have mt : ∀ i, i < 52 → (T.map (fun t => t.2.1)).getD (sgI i) 0 < M := fun i hi => hM _ (List.mem_append_left _ (mem_getD (by rw [l2]; exact sg i hi)))
    have mr : ∀ i, 60 ≤ i → i < 70 → (R.map (fun r => r.1)).getD (piI (i - 60)) 0 < M := fun i h1 h2 => hM _ (List.mem_append_right _ (mem_getD (by rw [l3]; exact (piI_ok _ (by omega)).1)))
    have ap : ∀ i j, i < 52 → 60 ≤ j → j < 70 → (T.map (fun t => t.2.1)).getD (sgI i) 0 ≠ (R.map (fun r => r.1)).getD (piI (j - 60)) 0 := fun i j hi h1 h2 z => by
      obtain ⟨t, ht, e1⟩ := List.mem_map.mp (mem_getD (xs := T.map (fun t => t.2.1)) (i := sgI i) (by rw [l2]; exact sg i hi))
      obtain ⟨r, hr, e2⟩ := List.mem_map.mp (mem_getD (xs := R.map (fun r => r.1)) (i := piI (j - 60)) (by rw [l3]; exact (piI_ok _ (by omega)).1))
      exact k5 t ht r hr (by rw [e1, e2]; exact z)
    dsimp only at e
    by_cases i1 : i < 52
    · rw [if_pos i1] at e
      have m1 := mt i i1
      by_cases j1 : j < 52
      · rw [if_pos j1] at e
        exact sgi i j i1 j1 (nd_getD k3 (by rw [l2]; exact sg i i1) (by rw [l2]; exact sg j j1) e)
      · rw [if_neg j1] at e
        by_cases j2 : j < 60
        · rw [if_pos j2] at e
          omega
        · rw [if_neg j2] at e
          exact absurd e (ap i j i1 (by omega) hj)
    · rw [if_neg i1] at e
      by_cases i2 : i < 60
      · rw [if_pos i2] at e
        by_cases j1 : j < 52
        · rw [if_pos j1] at e
          have := mt j j1
          omega
        · rw [if_neg j1] at e
          by_cases j2 : j < 60
          · rw [if_pos j2] at e
            omega
          · rw [if_neg j2] at e
            have := mr j (by omega) hj
            omega
      · rw [if_neg i2] at e
        have m1 := mr i (by omega) hi
        by_cases j1 : j < 52
        · rw [if_pos j1] at e
          exact absurd e.symm (ap j i j1 (by omega) hi)
        · rw [if_neg j1] at e
          by_cases j2 : j < 60
          · rw [if_pos j2] at e
            omega
          · rw [if_neg j2] at e
            have e1 := nd_getD k4 (by rw [l3]; exact (piI_ok (i - 60) (by omega)).1) (by rw [l3]; exact (piI_ok (j - 60) (by omega)).1) e
            have := (piI_ok (j - 60) (by omega)).2 (i - 60) (by omega) e1
            omega
  · dsimp only
    rw [if_pos hi]
    exact T4_get hx
  · dsimp only
    rw [if_neg (by omega), if_neg (by omega), Nat.add_sub_cancel_left, List.getD_eq_getElem?_getD, List.getElem?_map, hx]
    rfl
theorem rg_eq {B : Nat → Nat} {f n : Nat} {xs : List T4} (hl : xs.length = n) (h : ∀ i x, i < n → xs[i]? = some x → B (f + i) = x.1) : xs.map (fun t => t.1) = rgB B f n := by
  refine List.ext_getElem? (fun i => ?_)
  rcases Nat.lt_or_ge i n with c | c
  · obtain ⟨x, hx⟩ : ∃ x, xs[i]? = some x := ⟨_, List.getElem?_eq_getElem (by omega)⟩
    rw [List.getElem?_map, hx, rgB_get B f c, h i x c hx]
    rfl
  · rw [List.getElem?_eq_none (by rw [List.length_map]; omega), List.getElem?_eq_none (by unfold rgB; rw [List.length_map, List.length_range]; exact c)]
theorem apR {l1 l2 : List T4} {k j : Nat} (h : l1.length = k) : (l1 ++ l2)[k + j]? = l2[j]? := by
  rw [← h, List.getElem?_append_right (Nat.le_add_right _ _), Nat.add_sub_cancel_left]
theorem apL {l1 l2 : List T4} {j : Nat} (h : j < l1.length) : (l1 ++ l2)[j]? = l1[j]? := List.getElem?_append_left h
set_option maxHeartbeats 4000000 in
theorem new6_st {o : Nat} {h h' : AH} {S A u1 u2 u3 u4 u5 u6 u7 u8 u9 q1 q2 q3 q4 ar5 ar6 b7 c7 r7 p7 d7 e7 b8 c8 r8 s8 f8 p8 d8 e8 p9 d9 e9 : Nat} {t5 t6 tS : List T4} {N : List (Nat × Nat × List T4)} (ho : h' o = some (8, [.ref S, .ref A, .int 0, .int 0, .int 0, .ref u1, .ref u2, .ref u3, .ref u4, .ref u5, .ref u6, .ref u7, .ref u8, .ref u9])) (hS : h' S = some (103, (tS.map (fun t => t.1)).map Value.ref)) (hA : h' A = some (104, (N.map (fun x => x.1)).map Value.ref)) (hT : Tn8 6 tS) (hN : N.length = 3)
    (OO : OB (fun a => a = o) h' ((((((((([] ++ []) ++ []) ++ []) ++ []) ++ []) ++ []) ++ [(u7, (6, [.ref b7, .ref r7, .ref p7, .int 0, .int 0])), (p7, (4, [.ref d7, .ref e7, vI 0]))]) ++ [(u8, (3, [.ref b8, .ref r8, .ref s8, .ref f8, .ref p8])), (p8, (4, [.ref d8, .ref e8, vI 0]))]) ++ [(u9, (5, [.ref p9])), (p9, (4, [.ref d9, .ref e9, vI 0]))]))
    (LL : AL (fun a => a = o) h' (((((((((([] ++ []) ++ []) ++ []) ++ []) ++ [(u5, ar5, t5)]) ++ [(u6, ar6, t6)]) ++ []) ++ []) ++ []) ++ N))
    (K : KL (fun a => a = o) h h' ((((((((((([] ++ [(u1, q1, 16, ([], false))]) ++ [(u2, q2, 16, ([], false))]) ++ [(u3, q3, 256, ([], false))]) ++ [(u4, q4, 256, ([], false))]) ++ t5) ++ t6) ++ [(b7, c7, 32, ([], false))]) ++ [(b8, c8, 32, ([], false))]) ++ []) ++ tS) ++ N.flatMap (fun x => x.2.2)) ((((((((([] ++ []) ++ []) ++ []) ++ []) ++ []) ++ []) ++ [(r7, 8), (d7, 128), (e7, 128)]) ++ [(r8, 32), (s8, 32), (f8, 8), (d8, 128), (e8, 128)]) ++ [(d9, 128), (e9, 128)])) :
    ∃ B Q P : Nat → Nat, LYO B Q ∧ StC B Q P o 0 h' st0 ∧ ∀ (a : Nat) (c : AC), a ≠ o → h a = some c → h' a = some c := by
  obtain ⟨y0, y1, y2, rfl⟩ : ∃ y0 y1 y2, N = [y0, y1, y2] := by
    match N, hN with
    | [y0, y1, y2], _ => exact ⟨y0, y1, y2, rfl⟩
  obtain ⟨a0, x0, n0⟩ := y0
  obtain ⟨a1, x1, n1⟩ := y1
  obtain ⟨a2, x2, n2⟩ := y2
  have L5 := LL (u5, ar5, t5) (by simp)
  have L6 := LL (u6, ar6, t6) (by simp)
  have M0 := LL (a0, x0, n0) (by simp)
  have M1 := LL (a1, x1, n1) (by simp)
  have M2 := LL (a2, x2, n2) (by simp)
  have O7 := (OO (u7, (6, [.ref b7, .ref r7, .ref p7, .int 0, .int 0])) (by simp)).2
  have O7p := (OO (p7, (4, [.ref d7, .ref e7, vI 0])) (by simp)).2
  have O8 := (OO (u8, (3, [.ref b8, .ref r8, .ref s8, .ref f8, .ref p8])) (by simp)).2
  have O8p := (OO (p8, (4, [.ref d8, .ref e8, vI 0])) (by simp)).2
  have O9 := (OO (u9, (5, [.ref p9])) (by simp)).2
  have O9p := (OO (p9, (4, [.ref d9, .ref e9, vI 0])) (by simp)).2
  have Hfr := K.1
  have eT : ((((((((((([] ++ [(u1, q1, 16, ([], false))]) ++ [(u2, q2, 16, ([], false))]) ++ [(u3, q3, 256, ([], false))]) ++ [(u4, q4, 256, ([], false))]) ++ t5) ++ t6) ++ [(b7, c7, 32, ([], false))]) ++ [(b8, c8, 32, ([], false))]) ++ []) ++ tS) ++ List.flatMap (fun x : Nat × Nat × List T4 => x.2.2) [(a0, x0, n0), (a1, x1, n1), (a2, x2, n2)] : List T4) = [(u1, q1, 16, ([], false)), (u2, q2, 16, ([], false)), (u3, q3, 256, ([], false)), (u4, q4, 256, ([], false))] ++ (t5 ++ (t6 ++ ([(b7, c7, 32, ([], false)), (b8, c8, 32, ([], false))] ++ (tS ++ (n0 ++ (n1 ++ n2)))))) := by simp
  have eR : (((((((((([] ++ []) ++ []) ++ []) ++ []) ++ []) ++ []) ++ [(r7, 8), (d7, 128), (e7, 128)]) ++ [(r8, 32), (s8, 32), (f8, 8), (d8, 128), (e8, 128)]) ++ [(d9, 128), (e9, 128)]) : List (Nat × Nat)) = [(r7, 8), (d7, 128), (e7, 128), (r8, 32), (s8, 32), (f8, 8), (d8, 128), (e8, 128), (d9, 128), (e9, 128)] := rfl
  rw [eT, eR] at K
  have g5 : t5.length = 8 := L5.1.1
  have g6 : t6.length = 8 := L6.1.1
  have gS : tS.length = 6 := hT.1
  have m0 : n0.length = 8 := M0.1.1
  have m1 : n1.length = 8 := M1.1.1
  have m2 : n2.length = 8 := M2.1.1
  have hTl : ([(u1, q1, 16, ([], false)), (u2, q2, 16, ([], false)), (u3, q3, 256, ([], false)), (u4, q4, 256, ([], false))] ++ (t5 ++ (t6 ++ ([(b7, c7, 32, ([], false)), (b8, c8, 32, ([], false))] ++ (tS ++ (n0 ++ (n1 ++ n2)))))) : List T4).length = 52 := by
    simp only [List.length_append, List.length_cons, List.length_nil, g5, g6, gS, m0, m1, m2]
  obtain ⟨B, Q, Y, hB, hQ⟩ := KL_lay K hTl rfl
  generalize hTT : ([(u1, q1, 16, ([], false)), (u2, q2, 16, ([], false)), (u3, q3, 256, ([], false)), (u4, q4, 256, ([], false))] ++ (t5 ++ (t6 ++ ([(b7, c7, 32, ([], false)), (b8, c8, 32, ([], false))] ++ (tS ++ (n0 ++ (n1 ++ n2)))))) : List T4) = T at K hTl hB
  have w4 : ∀ j, T[4 + j]? = (t5 ++ (t6 ++ ([(b7, c7, 32, ([], false)), (b8, c8, 32, ([], false))] ++ (tS ++ (n0 ++ (n1 ++ n2))))))[j]? := fun j => by rw [← hTT]; exact apR rfl
  have w12 : ∀ j, T[12 + j]? = (t6 ++ ([(b7, c7, 32, ([], false)), (b8, c8, 32, ([], false))] ++ (tS ++ (n0 ++ (n1 ++ n2)))))[j]? := fun j => by rw [show 12 + j = 4 + (8 + j) by omega, w4]; exact apR g5
  have w20 : ∀ j, T[20 + j]? = ([(b7, c7, 32, ([], false)), (b8, c8, 32, ([], false))] ++ (tS ++ (n0 ++ (n1 ++ n2))))[j]? := fun j => by rw [show 20 + j = 12 + (8 + j) by omega, w12]; exact apR g6
  have w22 : ∀ j, T[22 + j]? = (tS ++ (n0 ++ (n1 ++ n2)))[j]? := fun j => by rw [show 22 + j = 20 + (2 + j) by omega, w20]; exact apR rfl
  have w28 : ∀ j, T[28 + j]? = (n0 ++ (n1 ++ n2))[j]? := fun j => by rw [show 28 + j = 22 + (6 + j) by omega, w22]; exact apR gS
  have w36 : ∀ j, T[36 + j]? = (n1 ++ n2)[j]? := fun j => by rw [show 36 + j = 28 + (8 + j) by omega, w28]; exact apR m0
  have w44 : ∀ j, T[44 + j]? = n2[j]? := fun j => by rw [show 44 + j = 36 + (8 + j) by omega, w36]; exact apR m1
  have v5 : ∀ j, j < 8 → T[4 + j]? = t5[j]? := fun j hj => by rw [w4]; exact apL (by omega)
  have v6 : ∀ j, j < 8 → T[12 + j]? = t6[j]? := fun j hj => by rw [w12]; exact apL (by omega)
  have vS : ∀ j, j < 6 → T[22 + j]? = tS[j]? := fun j hj => by rw [w22]; exact apL (by omega)
  have v0 : ∀ j, j < 8 → T[28 + j]? = n0[j]? := fun j hj => by rw [w28]; exact apL (by omega)
  have v1 : ∀ j, j < 8 → T[36 + j]? = n1[j]? := fun j hj => by rw [w36]; exact apL (by omega)
  have z0 : T[0]? = some (u1, q1, 16, ([], false)) := by rw [← hTT]; rfl
  have z1 : T[1]? = some (u2, q2, 16, ([], false)) := by rw [← hTT]; rfl
  have z2 : T[2]? = some (u3, q3, 256, ([], false)) := by rw [← hTT]; rfl
  have z3 : T[3]? = some (u4, q4, 256, ([], false)) := by rw [← hTT]; rfl
  have z20 : T[20]? = some (b7, c7, 32, ([], false)) := w20 0
  have z21 : T[21]? = some (b8, c8, 32, ([], false)) := w20 1
  have dS : ∀ j, j < 6 → ∃ b q, T[sgI j]? = some (b, q, 16, ([nI j], false)) := fun j hj => by
    obtain ⟨b, q, e⟩ := hT.2 j hj
    exact ⟨b, q, by rw [show sgI j = 22 + j by unfold sgI; rw [if_pos (by omega)]; omega, vS j hj]; exact e⟩
  have dN : ∀ k, k < 3 → ∀ j, j < 8 → ∃ b q, T[sgI (6 + 8 * k + j)]? = some (b, q, 16, ([nI j], false)) := fun k hk j hj => by
    have es : sgI (6 + 8 * k + j) = 28 + 8 * k + j := by unfold sgI; rw [if_pos (by omega)]; omega
    rw [es]
    match k, hk with
    | 0, _ => obtain ⟨b, q, e⟩ := M0.1.2 j hj; exact ⟨b, q, by rw [show 28 + 8 * 0 + j = 28 + j by omega, v0 j hj]; exact e⟩
    | 1, _ => obtain ⟨b, q, e⟩ := M1.1.2 j hj; exact ⟨b, q, by rw [show 28 + 8 * 1 + j = 36 + j by omega, v1 j hj]; exact e⟩
    | 2, _ => obtain ⟨b, q, e⟩ := M2.1.2 j hj; exact ⟨b, q, by rw [show 28 + 8 * 2 + j = 44 + j by omega, w44]; exact e⟩
  have dX : ∀ i, i < 52 → ∃ x : T4, T[sgI i]? = some x ∧ x.2.2.1 = rmI i := fun i hi => by
    rcases Nat.lt_or_ge i 6 with c | c
    · obtain ⟨b, q, e⟩ := dS i c
      exact ⟨_, e, by unfold rmI; rw [if_pos (by omega)]⟩
    · rcases Nat.lt_or_ge i 30 with c2 | c2
      · obtain ⟨b, q, e⟩ := dN ((i - 6) / 8) (by omega) ((i - 6) % 8) (by omega)
        rw [show 6 + 8 * ((i - 6) / 8) + (i - 6) % 8 = i by omega] at e
        exact ⟨_, e, by unfold rmI; rw [if_pos (by omega)]⟩
      · have es : sgI i = i - 30 := by unfold sgI; rw [if_neg (by omega)]
        rw [es]
        rcases Nat.lt_or_ge i 34 with c3 | c3
        · rcases (show i = 30 ∨ i = 31 ∨ i = 32 ∨ i = 33 by omega) with rfl | rfl | rfl | rfl
          · exact ⟨_, z0, rfl⟩
          · exact ⟨_, z1, rfl⟩
          · exact ⟨_, z2, rfl⟩
          · exact ⟨_, z3, rfl⟩
        · have r16 : i < 50 → (16 : Nat) = rmI i := fun h => by unfold rmI; rw [if_neg (by omega), if_neg (by omega), if_pos h]
          rcases Nat.lt_or_ge i 42 with c4 | c4
          · obtain ⟨b, q, e⟩ := L5.1.2 (i - 34) (by omega)
            exact ⟨(b, q, 16, ([nI (i - 34)], false)), by rw [show i - 30 = 4 + (i - 34) by omega, v5 _ (by omega)]; exact e, r16 (by omega)⟩
          · rcases Nat.lt_or_ge i 50 with c5 | c5
            · obtain ⟨b, q, e⟩ := L6.1.2 (i - 42) (by omega)
              exact ⟨(b, q, 16, ([nI (i - 42)], false)), by rw [show i - 30 = 12 + (i - 42) by omega, v6 _ (by omega)]; exact e, r16 (by omega)⟩
            · rcases (show i = 50 ∨ i = 51 by omega) with rfl | rfl
              · exact ⟨_, z20, rfl⟩
              · exact ⟨_, z21, rfl⟩
  have TSx : TS B Q h' (fun i => ((T[sgI i]?).map (fun t => t.2.2.2)).getD ([], false)) := fun i hi => by
    obtain ⟨x, hx, hr⟩ := dX i hi
    obtain ⟨eb, eq⟩ := hB i x hi hx
    have tm := (K.2.2.2.2.2.1 x (List.mem_of_getElem? hx)).2.2.2.2
    dsimp only
    rw [hx, eb, eq, ← hr]
    exact tm
  have b30 : B 30 = u1 := (hB 30 _ (by decide) z0).1
  have b31 : B 31 = u2 := (hB 31 _ (by decide) z1).1
  have b32 : B 32 = u3 := (hB 32 _ (by decide) z2).1
  have b33 : B 33 = u4 := (hB 33 _ (by decide) z3).1
  have b50 : B 50 = b7 := (hB 50 _ (by decide) z20).1
  have b51 : B 51 = b8 := (hB 51 _ (by decide) z21).1
  have q60 : Q 60 = r7 := hQ 0 _ (by decide) rfl
  have q61 : Q 61 = r8 := hQ 1 _ (by decide) rfl
  have q62 : Q 62 = s8 := hQ 2 _ (by decide) rfl
  have q63 : Q 63 = f8 := hQ 3 _ (by decide) rfl
  have q64 : Q 64 = d7 := hQ 4 _ (by decide) rfl
  have q65 : Q 65 = e7 := hQ 5 _ (by decide) rfl
  have q66 : Q 66 = d8 := hQ 6 _ (by decide) rfl
  have q67 : Q 67 = e8 := hQ 7 _ (by decide) rfl
  have q68 : Q 68 = d9 := hQ 8 _ (by decide) rfl
  have q69 : Q 69 = e9 := hQ 9 _ (by decide) rfl
  have eS : tS.map (fun t => t.1) = rgB B 0 6 := rg_eq gS (fun i x hi hx => by rw [Nat.zero_add]; exact (hB i x (by omega) (by rw [show sgI i = 22 + i by unfold sgI; rw [if_pos (by omega)]; omega, vS i hi]; exact hx)).1)
  have e0 : n0.map (fun t => t.1) = rgB B (6 + 8 * 0) 8 := rg_eq m0 (fun i x hi hx => (hB _ x (by omega) (by rw [show sgI (6 + 8 * 0 + i) = 28 + i by unfold sgI; rw [if_pos (by omega)]; omega, v0 i hi]; exact hx)).1)
  have e1 : n1.map (fun t => t.1) = rgB B (6 + 8 * 1) 8 := rg_eq m1 (fun i x hi hx => (hB _ x (by omega) (by rw [show sgI (6 + 8 * 1 + i) = 36 + i by unfold sgI; rw [if_pos (by omega)]; omega, v1 i hi]; exact hx)).1)
  have e2 : n2.map (fun t => t.1) = rgB B (6 + 8 * 2) 8 := rg_eq m2 (fun i x hi hx => (hB _ x (by omega) (by rw [show sgI (6 + 8 * 2 + i) = 44 + i by unfold sgI; rw [if_pos (by omega)]; omega, w44]; exact hx)).1)
  have e5 : t5.map (fun t => t.1) = rgB B 34 8 := rg_eq g5 (fun i x hi hx => (hB _ x (by omega) (by rw [show sgI (34 + i) = 4 + i by unfold sgI; rw [if_neg (by omega)]; omega, v5 i hi]; exact hx)).1)
  have e6 : t6.map (fun t => t.1) = rgB B 42 8 := rg_eq g6 (fun i x hi hx => (hB _ x (by omega) (by rw [show sgI (42 + i) = 12 + i by unfold sgI; rw [if_neg (by omega)]; omega, v6 i hi]; exact hx)).1)
  have rws : ∀ x ∈ ([(r7, 8), (d7, 128), (e7, 128), (r8, 32), (s8, 32), (f8, 8), (d8, 128), (e8, 128), (d9, 128), (e9, 128)] : List (Nat × Nat)), ∃ xs : List Int32, h' x.1 = some (107, xs.map Value.int) ∧ xs.length = x.2 := fun x hx => (K.2.2.2.2.2.2 x hx).2.2
  refine ⟨B, Q, fun i => [S, A, u5, u6, u7, u8, u9, a0, a1, a2, 0, 0, 0, p7, p8, p9].getD i 0, Y, ⟨_, ⟨TSx, ?_, ⟨?_, ?_, fun k hk => ?_, ?_, ?_⟩, ⟨0, 0, ?_⟩, ?_, ?_, fun k hk => ?_, fun j h1 h2 => ?_⟩, ⟨fun j hj => ?_, fun k hk => ?_⟩, st0_ok⟩, Hfr⟩
  · show h' o = some (8, [.ref S, .ref A, .int 0, .int 0, .int 0, .ref (B 30), .ref (B 31), .ref (B 32), .ref (B 33), .ref u5, .ref u6, .ref u7, .ref u8, .ref u9])
    rw [b30, b31, b32, b33]
    exact ho
  · show h' S = _
    rw [← eS]
    exact hS
  · show h' A = some (104, ([a0, a1, a2] : List Nat).map Value.ref)
    exact hA
  · match k, hk with
    | 0, _ => exact ⟨by decide, x0, M0.2.2.2.1, by rw [← e0]; exact M0.2.2.2.2⟩
    | 1, _ => exact ⟨by decide, x1, M1.2.2.2.1, by rw [← e1]; exact M1.2.2.2.2⟩
    | 2, _ => exact ⟨by decide, x2, M2.2.2.2.1, by rw [← e2]; exact M2.2.2.2.2⟩
  · exact ⟨by decide, ar5, L5.2.2.2.1, by rw [← e5]; exact L5.2.2.2.2⟩
  · exact ⟨by decide, ar6, L6.2.2.2.1, by rw [← e6]; exact L6.2.2.2.2⟩
  · show h' u7 = some (6, [.ref (B 50), .ref (Q 60), .ref p7, .int 0, .int 0])
    rw [b50, q60]
    exact O7
  · show h' u8 = some (3, [.ref (B 51), .ref (Q 61), .ref (Q 62), .ref (Q 63), .ref p8])
    rw [b51, q61, q62, q63]
    exact O8
  · exact O9
  · match k, hk with
    | 0, _ => exact ⟨0, by decide, by show h' p7 = some (4, [.ref (Q 64), .ref (Q 65), vI 0]); rw [q64, q65]; exact O7p⟩
    | 1, _ => exact ⟨0, by decide, by show h' p8 = some (4, [.ref (Q 66), .ref (Q 67), vI 0]); rw [q66, q67]; exact O8p⟩
    | 2, _ => exact ⟨0, by decide, by show h' p9 = some (4, [.ref (Q 68), .ref (Q 69), vI 0]); rw [q68, q69]; exact O9p⟩
  · rcases (show j = 60 ∨ j = 61 ∨ j = 62 ∨ j = 63 ∨ j = 64 ∨ j = 65 ∨ j = 66 ∨ j = 67 ∨ j = 68 ∨ j = 69 by omega) with rfl | rfl | rfl | rfl | rfl | rfl | rfl | rfl | rfl | rfl
    · rw [q60]; exact rws (r7, 8) (by simp)
    · rw [q61]; exact rws (r8, 32) (by simp)
    · rw [q62]; exact rws (s8, 32) (by simp)
    · rw [q63]; exact rws (f8, 8) (by simp)
    · rw [q64]; exact rws (d7, 128) (by simp)
    · rw [q65]; exact rws (e7, 128) (by simp)
    · rw [q66]; exact rws (d8, 128) (by simp)
    · rw [q67]; exact rws (e8, 128) (by simp)
    · rw [q68]; exact rws (d9, 128) (by simp)
    · rw [q69]; exact rws (e9, 128) (by simp)
  · obtain ⟨b, q, e⟩ := dS j hj
    exact ⟨[j], sl0_get j hj, by dsimp only; rw [e]; rfl⟩
  · refine ⟨rw0, ?_, rfl, fun n hn => ?_⟩
    · match k, hk with
      | 0, _ => rfl
      | 1, _ => rfl
      | 2, _ => rfl
    · obtain ⟨b, q, e⟩ := dN k hk n hn
      exact ⟨[n], rw0_get n hn, by dsimp only; rw [e]; rfl, TW.name hn, Nat.le_of_ble_eq_true rfl⟩
end Uf04st0
section Uf05ref0
/-! the reference's constructor, exactly (printed by wip/p20/genN4.py) -/
section F05
variable {la : Launch} {D : va_G} {cA : Nat → ClassId} {B0 pa : Nat} {o : Nat}
set_option maxHeartbeats 8000000 in
theorem RF.c_init10 (h : AH) (ho : h o = some (12, [.null, .null, .int 0, .int 0, .int 0, .int 0])) : CT la D cA B0 pa yX10_init cX10_init 2 none (rmD 2 35 63) [.ref o] h (fun v h' => v = none ∧ (∃ S A, h S = none ∧ h A = none ∧ MD h' o S A st0.1 st0.2.1 0 0 0 0) ∧ Fo o h h') := by
  refine CT_of (by decide +kernel) (Nat.le_of_ble_eq_true rfl) ?_
  intro p e s m args below meth c X E hr hlk hnm
  have dk : ∀ {pc : Nat} {q : Instr × Nat}, lkd DX10_init pc = some q → decode cX10_init pc = .ok q := lkd_ok DX10_init_ok
  repeat refine fst1_ok X (dk rfl) rfl ?_
  refine obj_ok X ml10_obj (dk rfl) (Nat.le_of_ble_eq_true rfl) (Nat.le_of_ble_eq_true rfl) (Nat.le_of_ble_eq_true rfl) ?_
  repeat refine fst1_ok X (dk rfl) rfl ?_
  refine newR_ok (N := 6) (kd := 105) X E (by decide) cl10_9 (by decide) (dk rfl) (by decide) (by decide) (fun S hS hBS => ?_)
  have XS := Ext.new hS ((105, List.replicate 6 Value.null) : AC)
  have hoS : o ≠ S := fun z => by rw [← z, ho] at hS; cases hS
  refine putf_ok X flX10_11 ftX10_0 (Or.inr ⟨by rw [hnm]; rfl, RX10, TX10, 6, rfl, rfl⟩) rfl rfl (dk rfl) (XS _ _ ho) (Nat.le_of_ble_eq_true rfl) ?_
  have ho1 : hup (hup h S (105, List.replicate 6 Value.null)) o (12, [Value.null, .null, .int 0, .int 0, .int 0, .int 0].set 0 (.ref S)) o = some (12, [Value.ref S, .null, .int 0, .int 0, .int 0, .int 0]) := hup_self _ _ _
  have hS1 : hup (hup h S (105, List.replicate 6 Value.null)) o (12, [Value.null, .null, .int 0, .int 0, .int 0, .int 0].set 0 (.ref S)) S = some (105, filR [] 6) := by rw [hup_ne _ _ hoS.symm, hup_self, filR_0]
  have F1 : Fo o h (hup (hup h S (105, List.replicate 6 Value.null)) o (12, [Value.null, .null, .int 0, .int 0, .int 0, .int 0].set 0 (.ref S))) := fun b c hb e => by rw [hup_ne _ _ hb]; exact XS _ _ e
  generalize hup (hup h S (105, List.replicate 6 Value.null)) o (12, [Value.null, .null, .int 0, .int 0, .int 0, .int 0].set 0 (.ref S)) = h1 at ho1 hS1 F1
  repeat refine fst1_ok X (dk rfl) rfl ?_
  refine newR_ok (N := 3) (kd := 106) X E (by decide) cl10_15 (by decide) (dk rfl) (Nat.le_of_ble_eq_true rfl) (Nat.le_of_ble_eq_true rfl) (fun A hA hBA => ?_)
  have XA := Ext.new hA ((106, List.replicate 3 Value.null) : AC)
  have hoA : o ≠ A := fun z => by rw [← z, ho1] at hA; cases hA
  have hSA : S ≠ A := fun z => by rw [← z, hS1] at hA; cases hA
  refine putf_ok X flX10_16 ftX10_1 (Or.inr ⟨by rw [hnm]; rfl, RX10, TX10, 6, rfl, rfl⟩) rfl rfl (dk rfl) (XA _ _ ho1) (Nat.le_of_ble_eq_true rfl) ?_
  have ho2 : hup (hup h1 A (106, List.replicate 3 Value.null)) o (12, [Value.ref S, .null, .int 0, .int 0, .int 0, .int 0].set 1 (.ref A)) o = some (12, [Value.ref S, .ref A, .int 0, .int 0, .int 0, .int 0]) := hup_self _ _ _
  have hA2 : hup (hup h1 A (106, List.replicate 3 Value.null)) o (12, [Value.ref S, .null, .int 0, .int 0, .int 0, .int 0].set 1 (.ref A)) A = some (106, filR [] 3) := by rw [hup_ne _ _ hoA.symm, hup_self, filR_0]
  have hS2 : hup (hup h1 A (106, List.replicate 3 Value.null)) o (12, [Value.ref S, .null, .int 0, .int 0, .int 0, .int 0].set 1 (.ref A)) S = some (105, filR [] 6) := by rw [hup_ne _ _ hoS.symm]; exact XA _ _ hS1
  have F2 : Fo o h (hup (hup h1 A (106, List.replicate 3 Value.null)) o (12, [Value.ref S, .null, .int 0, .int 0, .int 0, .int 0].set 1 (.ref A))) := fun b c hb e => by rw [hup_ne _ _ hb]; exact XA _ _ (F1 b c hb e)
  have hAn : h A = none := by
    cases hz : h A with
    | none => rfl
    | some c => have := F1 A c hoA.symm hz; rw [hA] at this; cases this
  generalize hup (hup h1 A (106, List.replicate 3 Value.null)) o (12, [Value.ref S, .null, .int 0, .int 0, .int 0, .int 0].set 1 (.ref A)) = h2 at ho2 hA2 hS2 F2
  -- the answers
  have loopA : ∀ (d i : Nat), d = 3 - i → i ≤ 3 → ∀ (hh : AH) (as : List Nat) (l : List (Nat × Value)), lsel l [1, 0] = [(1, vI i), (0, .ref o)] → as.length = i → hh o = some (12, [Value.ref S, .ref A, .int 0, .int 0, .int 0, .int 0]) → Ans hh S [[0], [1], [2], [3], [4], [5]] → hh A = some (106, filR as 3) → S ∉ as → (∀ k b : Nat, as[k]? = some b → Ans hh b [[0], [1], [2], [3], [4], [5], [6], [7]]) → Fo o h hh →
      WR p la e (rmD 2 35 63) s m args below meth c D cA B0 2 (fun v h' => v = none ∧ (∃ S A, h S = none ∧ h A = none ∧ MD h' o S A st0.1 st0.2.1 0 0 0 0) ∧ Fo o h h') 47 l [] hh (8 + 9 * i) (15 + 16 * i) := by
    intro d
    induction d with
    | zero =>
      intro i hd hi hh as l hl hla hoh hSh hAh hSn has FF
      have hi2 : i = 3 := by omega
      subst hi2
      refine WS.sel [1, 0] hl ?_
      repeat refine fst1_ok X (dk rfl) rfl ?_
      refine br_ok X (dk rfl) rfl (show ((49 : Nat) : Int) + 18 = ((67 : Nat) : Int) from rfl) (fun _ => ?_) (fun c1 => absurd (by decide) c1)
      refine retv_ok X hr hlk (dk rfl) ⟨rfl, ⟨S, A, hS, hAn, hoh, hSh, rfl, fun r hr => ?_, as, hla, rfl, by rw [hAh, ← hla, filR_end], hSn, fun k b rows e1 e2 => ?_⟩, FF⟩ (Nat.le_of_ble_eq_true rfl) (Nat.le_of_ble_eq_true rfl)
      · have hr : r ∈ ([[0], [1], [2], [3], [4], [5]] : List (List Nat)) := hr
        simp only [List.mem_cons, List.not_mem_nil, or_false] at hr
        rcases hr with rfl | rfl | rfl | rfl | rfl | rfl <;> exact ⟨TW.name (by omega), by decide⟩
      · have e2 : (List.replicate 3 rw0)[k]? = some rows := e2
        rw [List.getElem?_replicate] at e2
        split at e2
        · cases e2; exact ⟨has k b e1, AO_none⟩
        · cases e2
    | succ d ih =>
      intro i hd hi hh as l hl hla hoh hSh hAh hSn has FF
      have f2 : Value.int (nI i + Int32.ofInt 1) = vI (i + 1) := congrArg Value.int (by rw [nI_1', nI_add])
      refine WS.sel [1, 0] hl ?_
      repeat refine fst1_ok X (dk rfl) rfl ?_
      refine br_ok X (dk rfl) rfl (show ((49 : Nat) : Int) + 18 = ((67 : Nat) : Int) from rfl) (fun c1 => absurd c1 (nI_ge (a := i) (b := 3) (by omega) (by omega))) (fun _ => ?_)
      refine fst1_ok X (dk rfl) rfl ?_
      refine getf_ok X flX10_16 (dk rfl) hoh rfl ?_
      refine fst1_ok X (dk rfl) rfl ?_
      refine callS_ok (av := []) (r := [vI i, .ref A]) X E (c_none hh) lkX10_none mlX10_24 lsX10_none ⟨Nat.le_of_ble_eq_true rfl, Nat.le_of_ble_eq_true rfl⟩ ⟨by show 8 + 9 * i + 9 ≤ 35; omega, by show 15 + 16 * i + 16 ≤ 63; omega⟩ (Nat.le_of_ble_eq_true rfl) (dk rfl) ?_
      rintro v h3 ⟨N, rfl, hN, hBN, XN, nN⟩
      obtain ⟨vn, kn1⟩ := nN.kind
      obtain ⟨vS, kS⟩ := hSh.kind
      have hA3 := XN _ _ hAh
      refine sta_ok X (dk rfl) hA3 kn1 (by rw [filR_len (by omega)]; omega) (by rw [filR_len (by omega)]; omega) ?_
      rw [show (filR as 3).set i (.ref N) = filR (as ++ [N]) 3 by rw [← hla]; exact filR_set (by omega)]
      repeat refine fst1_ok X (dk rfl) rfl ?_
      refine br_ok X (dk rfl) rfl (show ((64 : Nat) : Int) + (-17) = ((47 : Nat) : Int) from rfl) (fun _ => ?_) (fun q => absurd trivial q)
      refine WS.widen (k' := 8 + 9 * (i + 1)) (n' := 15 + 16 * (i + 1)) (by show 8 + 9 * i + 9 ≤ 8 + 9 * (i + 1); omega) (by show 15 + 16 * i + 16 ≤ 15 + 16 * (i + 1); omega) ?_
      refine WS.sel (l' := [(1, vI (i + 1)), (0, .ref o)]) [1, 0] (by rw [← f2]; rfl) ?_
      have hAk : ∀ {b : Nat} {rows : List (List Nat)}, Ans h3 b rows → Ans (hup h3 A (106, filR (as ++ [N]) 3)) b rows := fun {b rows} H => by
        obtain ⟨vb, hb⟩ := H.kind
        exact H.hup (k_ne hA3 hb (by decide)) hA3 (by decide) _
      refine ih (i + 1) (by omega) (by omega) _ (as ++ [N]) _ rfl (by rw [List.length_append, hla]; rfl) (by rw [hup_ne _ _ (k_ne (XN _ _ hoh) hA3 (by decide))]; exact XN _ _ hoh) (hAk (hSh.ext XN)) (hup_self _ _ _) ?_ ?_ ?_
      · intro z
        rcases List.mem_append.mp z with q | q
        · exact hSn q
        · simp at q
          rw [← q, kS] at hN
          cases hN
      · intro k b hk
        rcases Nat.lt_or_ge k as.length with q | q
        · rw [List.getElem?_append_left q] at hk
          exact hAk ((has k b hk).ext XN)
        · have hk2 : k = as.length := by have := (List.getElem?_eq_some_iff.mp hk).1; rw [List.length_append, List.length_singleton] at this; omega
          rw [hk2, List.getElem?_concat_length] at hk
          cases hk
          exact hAk nN
      · intro b c hb e
        rw [hup_ne _ _ (fun z => by rw [z, hAn] at e; cases e)]
        exact XN _ _ (FF b c hb e)
  -- the slots
  have loopS : ∀ (d i : Nat), d = 6 - i → i ≤ 6 → ∀ (hh : AH) (as : List Nat) (l : List (Nat × Value)), lsel l [1, 0] = [(1, vI i), (0, .ref o)] → as.length = i → hh o = some (12, [Value.ref S, .ref A, .int 0, .int 0, .int 0, .int 0]) → hh S = some (105, filR as 6) → hh A = some (106, filR [] 3) → (∀ k b : Nat, as[k]? = some b → hh b = some (IA [k])) → Fo o h hh →
      WR p la e (rmD 2 35 63) s m args below meth c D cA B0 2 (fun v h' => v = none ∧ (∃ S A, h S = none ∧ h A = none ∧ MD h' o S A st0.1 st0.2.1 0 0 0 0) ∧ Fo o h h') 23 l [] hh (2 + i) (9 + i) := by
    intro d
    induction d with
    | zero =>
      intro i hd hi hh as l hl hla hoh hSh hAh has FF
      have hi2 : i = 6 := by omega
      subst hi2
      refine WS.sel [1, 0] hl ?_
      repeat refine fst1_ok X (dk rfl) rfl ?_
      refine br_ok X (dk rfl) rfl (show ((26 : Nat) : Int) + 19 = ((45 : Nat) : Int) from rfl) (fun _ => ?_) (fun c1 => absurd (by decide) c1)
      iterate 2 refine fst1_ok X (dk rfl) rfl ?_
      refine loopA 3 0 rfl (Nat.zero_le _) hh [] _ rfl rfl hoh ⟨as, hla, by rw [hSh, ← hla, filR_end], fun k a r e1 e2 => ?_⟩ hAh (by simp) (fun k b hk => by simp at hk) FF
      have h4 := has k a e1
      have hk6 : k < 6 := by rw [← hla]; exact (List.getElem?_eq_some_iff.mp e1).1
      have e3 : ([[0], [1], [2], [3], [4], [5]] : List (List Nat))[k]? = some [k] := by
        match k, hk6 with
        | 0, _ => rfl
        | 1, _ => rfl
        | 2, _ => rfl
        | 3, _ => rfl
        | 4, _ => rfl
        | 5, _ => rfl
      cases e2.symm.trans e3
      exact h4
    | succ d ih =>
      intro i hd hi hh as l hl hla hoh hSh hAh has FF
      have f2 : Value.int (nI i + Int32.ofInt 1) = vI (i + 1) := congrArg Value.int (by rw [nI_1', nI_add])
      refine WS.sel [1, 0] hl ?_
      repeat refine fst1_ok X (dk rfl) rfl ?_
      refine br_ok X (dk rfl) rfl (show ((26 : Nat) : Int) + 19 = ((45 : Nat) : Int) from rfl) (fun c1 => absurd c1 (nI_ge (a := i) (b := 6) (by omega) (by omega))) (fun _ => ?_)
      refine fst1_ok X (dk rfl) rfl ?_
      refine getf_ok X flX10_11 (dk rfl) hoh rfl ?_
      repeat refine fst1_ok X (dk rfl) rfl ?_
      refine callS_ok (av := [vI i]) (r := [vI i, .ref S]) X E (c_row hh i) lkX10_row mlX10_20 lsX10_row ⟨Nat.le_of_ble_eq_true rfl, Nat.le_of_ble_eq_true rfl⟩ ⟨by show 2 + i + 1 ≤ 35; omega, by show 9 + i + 1 ≤ 63; omega⟩ (Nat.le_of_ble_eq_true rfl) (dk rfl) ?_
      rintro v h3 ⟨q, rfl, hq, hBq, rfl⟩
      have XN := Ext.new hq (IA [i])
      have hS3 := XN _ _ hSh
      refine str_ok X (dk rfl) hS3 (hup_self _ _ _) (by rw [filR_len (by omega)]; omega) (by rw [filR_len (by omega)]; omega) ?_
      rw [show (filR as 6).set i (.ref q) = filR (as ++ [q]) 6 by rw [← hla]; exact filR_set (by omega)]
      repeat refine fst1_ok X (dk rfl) rfl ?_
      refine br_ok X (dk rfl) rfl (show ((42 : Nat) : Int) + (-19) = ((23 : Nat) : Int) from rfl) (fun _ => ?_) (fun q => absurd trivial q)
      refine WS.sel (l' := [(1, vI (i + 1)), (0, .ref o)]) [1, 0] (by rw [← f2]; rfl) ?_
      have kI : ∀ {b : Nat} {x : List Nat}, hup hh q (IA [i]) b = some (IA x) → hup (hup hh q (IA [i])) S (105, filR (as ++ [q]) 6) b = some (IA x) := fun {b x} hb => by rw [hup_ne _ _ (IA_ne hb hS3)]; exact hb
      refine ih (i + 1) (by omega) (by omega) _ (as ++ [q]) _ rfl (by rw [List.length_append, hla]; rfl) (by rw [hup_ne _ _ (k_ne (XN _ _ hoh) hS3 (by decide))]; exact XN _ _ hoh) (hup_self _ _ _) (by rw [hup_ne _ _ (k_ne (XN _ _ hAh) hS3 (by decide))]; exact XN _ _ hAh) ?_ ?_
      · intro k b hk
        rcases Nat.lt_or_ge k as.length with z | z
        · rw [List.getElem?_append_left z] at hk
          exact kI (XN _ _ (has k b hk))
        · have hk2 : k = as.length := by have := (List.getElem?_eq_some_iff.mp hk).1; rw [List.length_append, List.length_singleton] at this; omega
          rw [hk2, List.getElem?_concat_length] at hk
          cases hk
          rw [hk2, hla]
          exact kI (hup_self _ _ _)
      · intro b c hb e
        rw [hup_ne _ _ (fun z => by rw [z, hS] at e; cases e)]
        exact XN _ _ (FF b c hb e)
  iterate 2 refine fst1_ok X (dk rfl) rfl ?_
  exact loopS 6 0 rfl (Nat.zero_le _) h2 [] _ rfl rfl ho2 hS2 hA2 (fun k b hk => by simp at hk) F2

end F05
end Uf05ref0
