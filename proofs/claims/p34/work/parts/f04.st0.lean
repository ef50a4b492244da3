section Uf04st0
/-! a new object of the class holds the first state -/
def slI0 : List (List Nat) := [[0], [1], [2], [3], [4], [5]]
def rw0 : List (List Nat) := [[0], [1], [2], [3], [4], [5], [6], [7]]
def st0 : ST := (slI0, [rw0, rw0, rw0], 0, 0)
theorem sl0_get : ∀ j, j < 6 → slI0[j]? = some [j] := by decide
theorem rw0_get : ∀ j, j < 8 → rw0[j]? = some [j] := by decide
theorem st0_ok : StO st0 := ⟨rfl, fun z hz => by
  obtain ⟨j, hj⟩ := List.getElem?_of_mem hz
  have h6 : j < 6 := (List.getElem?_eq_some_iff.mp hj).1
  have hj' : slI0[j]? = some z := hj
  rw [sl0_get j h6] at hj'
  cases hj'
  exact ⟨TW.name (by omega), Nat.le_of_ble_eq_true rfl⟩, rfl, fun rows hr => by
  have hr' : rows ∈ [rw0, rw0, rw0] := hr
  have e : rows = rw0 := by simpa using hr'
  rw [e]
  exact AO_none⟩
theorem exBd : ∀ xs : List Nat, ∃ M, ∀ x ∈ xs, x < M
  | [] => ⟨0, fun x hx => by cases hx⟩
  | y :: r => by
    obtain ⟨M, hM⟩ := exBd r
    refine ⟨M + y + 1, fun x hx => ?_⟩
    rcases List.mem_cons.mp hx with rfl | hx
    · omega
    · have := hM x hx
      omega
def sgI (i : Nat) : Nat := if i < 30 then i + 22 else i - 30
def piI (j : Nat) : Nat := [0, 3, 4, 5, 1, 2, 6, 7, 8, 9].getD j 0
theorem piI_ok : ∀ j, j < 10 → piI j < 10 ∧ ∀ i, i < 10 → piI i = piI j → i = j := by decide
theorem nd_getD {xs : List Nat} (h : xs.Nodup) {i j : Nat} (hi : i < xs.length) (hj : j < xs.length) (e : xs.getD i 0 = xs.getD j 0) : i = j := by
  rw [List.getD_eq_getElem?_getD, List.getD_eq_getElem?_getD, List.getElem?_eq_getElem hi, List.getElem?_eq_getElem hj] at e
  exact (List.getElem_inj h).mp e
theorem mem_getD {xs : List Nat} {i : Nat} (hi : i < xs.length) : xs.getD i 0 ∈ xs := by
  rw [List.getD_eq_getElem?_getD, List.getElem?_eq_getElem hi]
  exact List.getElem_mem hi
theorem T4_get {T : List T4} {i : Nat} {x : T4} (h : T[i]? = some x) : (T.map (fun t => t.1)).getD i 0 = x.1 ∧ (T.map (fun t => t.2.1)).getD i 0 = x.2.1 := by
  rw [List.getD_eq_getElem?_getD, List.getD_eq_getElem?_getD, List.getElem?_map, List.getElem?_map, h]
  exact ⟨rfl, rfl⟩
/-- terms and rows that are apart make the class's layout -/
theorem KL_lay {ex : Nat → Prop} {h h' : AH} {T : List T4} {R : List (Nat × Nat)} (K : KL ex h h' T R) (hT : T.length = 52) (hR : R.length = 10) : ∃ B Q : Nat → Nat, LYO B Q ∧ (∀ i x, i < 52 → T[sgI i]? = some x → B i = x.1 ∧ Q i = x.2.1) ∧ ∀ j x, j < 10 → R[piI j]? = some x → Q (60 + j) = x.1 := by
  obtain ⟨k1, k2, k3, k4, k5, k6, k7⟩ := K
  obtain ⟨M, hM⟩ := exBd (T.map (fun t => t.2.1) ++ R.map (fun r => r.1))
  have l1 : (T.map (fun t => t.1)).length = 52 := by rw [List.length_map]; exact hT
  have l2 : (T.map (fun t => t.2.1)).length = 52 := by rw [List.length_map]; exact hT
  have l3 : (R.map (fun r => r.1)).length = 10 := by rw [List.length_map]; exact hR
  have sg : ∀ i, i < 52 → sgI i < 52 := fun i hi => by unfold sgI; split <;> omega
  have sgi : ∀ i j, i < 52 → j < 52 → sgI i = sgI j → i = j := fun i j hi hj e => by
    unfold sgI at e
    split at e <;> split at e <;> omega
  refine ⟨fun i => (T.map (fun t => t.1)).getD (sgI i) 0, fun i => if i < 52 then (T.map (fun t => t.2.1)).getD (sgI i) 0 else if i < 60 then M + i else (R.map (fun r => r.1)).getD (piI (i - 60)) 0, ⟨fun i j hi hj e => ?_, fun i j hi hj e => ?_⟩, fun i x hi hx => ?_, fun j x hj hx => ?_⟩
  · exact sgi i j hi hj (nd_getD k2 (by rw [l1]; exact sg i hi) (by rw [l1]; exact sg j hj) e)
  · have mt : ∀ i, i < 52 → (T.map (fun t => t.2.1)).getD (sgI i) 0 < M := fun i hi => hM _ (List.mem_append_left _ (mem_getD (by rw [l2]; exact sg i hi)))
    have mr : ∀ i, 60 ≤ i → i < 70 → (R.map (fun r => r.1)).getD (piI (i - 60)) 0 < M := fun i h1 h2 => hM _ (List.mem_append_right _ (mem_getD (by rw [l3]; exact (piI_ok _ (by omega)).1)))
    have ap : ∀ i j, i < 52 → 60 ≤ j → j < 70 → (T.map (fun t => t.2.1)).getD (sgI i) 0 ≠ (R.map (fun r => r.1)).getD (piI (j - 60)) 0 := fun i j hi h1 h2 z => by
      obtain ⟨t, ht, e1⟩ := List.mem_map.mp (mem_getD (xs := T.map (fun t => t.2.1)) (i := sgI i) (by rw [l2]; exact sg i hi))
      obtain ⟨r, hr, e2⟩ := List.mem_map.mp (mem_getD (xs := R.map (fun r => r.1)) (i := piI (j - 60)) (by rw [l3]; exact (piI_ok _ (by omega)).1))
      exact k5 t ht r hr (by rw [e1, e2]; exact z)
    dsimp only at e
    by_cases i1 : i < 52
    · rw [if_pos i1] at e
      have m1 := mt i i1
      by_cases j1 : j < 52
      · rw [if_pos j1] at e
        exact sgi i j i1 j1 (nd_getD k3 (by rw [l2]; exact sg i i1) (by rw [l2]; exact sg j j1) e)
      · rw [if_neg j1] at e
        by_cases j2 : j < 60
        · rw [if_pos j2] at e
          omega
        · rw [if_neg j2] at e
          exact absurd e (ap i j i1 (by omega) hj)
    · rw [if_neg i1] at e
      by_cases i2 : i < 60
      · rw [if_pos i2] at e
        by_cases j1 : j < 52
        · rw [if_pos j1] at e
          have := mt j j1
          omega
        · rw [if_neg j1] at e
          by_cases j2 : j < 60
          · rw [if_pos j2] at e
            omega
          · rw [if_neg j2] at e
            have := mr j (by omega) hj
            omega
      · rw [if_neg i2] at e
        have m1 := mr i (by omega) hi
        by_cases j1 : j < 52
        · rw [if_pos j1] at e
          exact absurd e.symm (ap j i j1 (by omega) hi)
        · rw [if_neg j1] at e
          by_cases j2 : j < 60
          · rw [if_pos j2] at e
            omega
          · rw [if_neg j2] at e
            have e1 := nd_getD k4 (by rw [l3]; exact (piI_ok (i - 60) (by omega)).1) (by rw [l3]; exact (piI_ok (j - 60) (by omega)).1) e
            have := (piI_ok (j - 60) (by omega)).2 (i - 60) (by omega) e1
            omega
  · dsimp only
    rw [if_pos hi]
    exact T4_get hx
  · dsimp only
    rw [if_neg (by omega), if_neg (by omega), Nat.add_sub_cancel_left, List.getD_eq_getElem?_getD, List.getElem?_map, hx]
    rfl
theorem rg_eq {B : Nat → Nat} {f n : Nat} {xs : List T4} (hl : xs.length = n) (h : ∀ i x, i < n → xs[i]? = some x → B (f + i) = x.1) : xs.map (fun t => t.1) = rgB B f n := by
  refine List.ext_getElem? (fun i => ?_)
  rcases Nat.lt_or_ge i n with c | c
  · obtain ⟨x, hx⟩ : ∃ x, xs[i]? = some x := ⟨_, List.getElem?_eq_getElem (by omega)⟩
    rw [List.getElem?_map, hx, rgB_get B f c, h i x c hx]
    rfl
  · rw [List.getElem?_eq_none (by rw [List.length_map]; omega), List.getElem?_eq_none (by unfold rgB; rw [List.length_map, List.length_range]; exact c)]
theorem apR {l1 l2 : List T4} {k j : Nat} (h : l1.length = k) : (l1 ++ l2)[k + j]? = l2[j]? := by
  rw [← h, List.getElem?_append_right (Nat.le_add_right _ _), Nat.add_sub_cancel_left]
theorem apL {l1 l2 : List T4} {j : Nat} (h : j < l1.length) : (l1 ++ l2)[j]? = l1[j]? := List.getElem?_append_left h
set_option maxHeartbeats 4000000 in
theorem new6_st {o : Nat} {h h' : AH} {S A u1 u2 u3 u4 u5 u6 u7 u8 u9 q1 q2 q3 q4 ar5 ar6 b7 c7 r7 p7 d7 e7 b8 c8 r8 s8 f8 p8 d8 e8 p9 d9 e9 : Nat} {t5 t6 tS : List T4} {N : List (Nat × Nat × List T4)} (ho : h' o = some (8, [.ref S, .ref A, .int 0, .int 0, .int 0, .ref u1, .ref u2, .ref u3, .ref u4, .ref u5, .ref u6, .ref u7, .ref u8, .ref u9])) (hS : h' S = some (103, (tS.map (fun t => t.1)).map Value.ref)) (hA : h' A = some (104, (N.map (fun x => x.1)).map Value.ref)) (hT : Tn8 6 tS) (hN : N.length = 3)
    (OO : OB (fun a => a = o) h' ((((((((([] ++ []) ++ []) ++ []) ++ []) ++ []) ++ []) ++ [(u7, (6, [.ref b7, .ref r7, .ref p7, .int 0, .int 0])), (p7, (4, [.ref d7, .ref e7, vI 0]))]) ++ [(u8, (3, [.ref b8, .ref r8, .ref s8, .ref f8, .ref p8])), (p8, (4, [.ref d8, .ref e8, vI 0]))]) ++ [(u9, (5, [.ref p9])), (p9, (4, [.ref d9, .ref e9, vI 0]))]))
    (LL : AL (fun a => a = o) h' (((((((((([] ++ []) ++ []) ++ []) ++ []) ++ [(u5, ar5, t5)]) ++ [(u6, ar6, t6)]) ++ []) ++ []) ++ []) ++ N))
    (K : KL (fun a => a = o) h h' ((((((((((([] ++ [(u1, q1, 16, ([], false))]) ++ [(u2, q2, 16, ([], false))]) ++ [(u3, q3, 256, ([], false))]) ++ [(u4, q4, 256, ([], false))]) ++ t5) ++ t6) ++ [(b7, c7, 32, ([], false))]) ++ [(b8, c8, 32, ([], false))]) ++ []) ++ tS) ++ N.flatMap (fun x => x.2.2)) ((((((((([] ++ []) ++ []) ++ []) ++ []) ++ []) ++ []) ++ [(r7, 8), (d7, 128), (e7, 128)]) ++ [(r8, 32), (s8, 32), (f8, 8), (d8, 128), (e8, 128)]) ++ [(d9, 128), (e9, 128)])) :
    ∃ B Q P : Nat → Nat, LYO B Q ∧ StC B Q P o 0 h' st0 ∧ ∀ (a : Nat) (c : AC), a ≠ o → h a = some c → h' a = some c := by
  obtain ⟨y0, y1, y2, rfl⟩ : ∃ y0 y1 y2, N = [y0, y1, y2] := by
    match N, hN with
    | [y0, y1, y2], _ => exact ⟨y0, y1, y2, rfl⟩
  obtain ⟨a0, x0, n0⟩ := y0
  obtain ⟨a1, x1, n1⟩ := y1
  obtain ⟨a2, x2, n2⟩ := y2
  have L5 := LL (u5, ar5, t5) (by simp)
  have L6 := LL (u6, ar6, t6) (by simp)
  have M0 := LL (a0, x0, n0) (by simp)
  have M1 := LL (a1, x1, n1) (by simp)
  have M2 := LL (a2, x2, n2) (by simp)
  have O7 := (OO (u7, (6, [.ref b7, .ref r7, .ref p7, .int 0, .int 0])) (by simp)).2
  have O7p := (OO (p7, (4, [.ref d7, .ref e7, vI 0])) (by simp)).2
  have O8 := (OO (u8, (3, [.ref b8, .ref r8, .ref s8, .ref f8, .ref p8])) (by simp)).2
  have O8p := (OO (p8, (4, [.ref d8, .ref e8, vI 0])) (by simp)).2
  have O9 := (OO (u9, (5, [.ref p9])) (by simp)).2
  have O9p := (OO (p9, (4, [.ref d9, .ref e9, vI 0])) (by simp)).2
  have Hfr := K.1
  have eT : ((((((((((([] ++ [(u1, q1, 16, ([], false))]) ++ [(u2, q2, 16, ([], false))]) ++ [(u3, q3, 256, ([], false))]) ++ [(u4, q4, 256, ([], false))]) ++ t5) ++ t6) ++ [(b7, c7, 32, ([], false))]) ++ [(b8, c8, 32, ([], false))]) ++ []) ++ tS) ++ List.flatMap (fun x : Nat × Nat × List T4 => x.2.2) [(a0, x0, n0), (a1, x1, n1), (a2, x2, n2)] : List T4) = [(u1, q1, 16, ([], false)), (u2, q2, 16, ([], false)), (u3, q3, 256, ([], false)), (u4, q4, 256, ([], false))] ++ (t5 ++ (t6 ++ ([(b7, c7, 32, ([], false)), (b8, c8, 32, ([], false))] ++ (tS ++ (n0 ++ (n1 ++ n2)))))) := by simp
  have eR : (((((((((([] ++ []) ++ []) ++ []) ++ []) ++ []) ++ []) ++ [(r7, 8), (d7, 128), (e7, 128)]) ++ [(r8, 32), (s8, 32), (f8, 8), (d8, 128), (e8, 128)]) ++ [(d9, 128), (e9, 128)]) : List (Nat × Nat)) = [(r7, 8), (d7, 128), (e7, 128), (r8, 32), (s8, 32), (f8, 8), (d8, 128), (e8, 128), (d9, 128), (e9, 128)] := rfl
  rw [eT, eR] at K
  have g5 : t5.length = 8 := L5.1.1
  have g6 : t6.length = 8 := L6.1.1
  have gS : tS.length = 6 := hT.1
  have m0 : n0.length = 8 := M0.1.1
  have m1 : n1.length = 8 := M1.1.1
  have m2 : n2.length = 8 := M2.1.1
  have hTl : ([(u1, q1, 16, ([], false)), (u2, q2, 16, ([], false)), (u3, q3, 256, ([], false)), (u4, q4, 256, ([], false))] ++ (t5 ++ (t6 ++ ([(b7, c7, 32, ([], false)), (b8, c8, 32, ([], false))] ++ (tS ++ (n0 ++ (n1 ++ n2)))))) : List T4).length = 52 := by
    simp only [List.length_append, List.length_cons, List.length_nil, g5, g6, gS, m0, m1, m2]
  obtain ⟨B, Q, Y, hB, hQ⟩ := KL_lay K hTl rfl
  generalize hTT : ([(u1, q1, 16, ([], false)), (u2, q2, 16, ([], false)), (u3, q3, 256, ([], false)), (u4, q4, 256, ([], false))] ++ (t5 ++ (t6 ++ ([(b7, c7, 32, ([], false)), (b8, c8, 32, ([], false))] ++ (tS ++ (n0 ++ (n1 ++ n2)))))) : List T4) = T at K hTl hB
  have w4 : ∀ j, T[4 + j]? = (t5 ++ (t6 ++ ([(b7, c7, 32, ([], false)), (b8, c8, 32, ([], false))] ++ (tS ++ (n0 ++ (n1 ++ n2))))))[j]? := fun j => by rw [← hTT]; exact apR rfl
  have w12 : ∀ j, T[12 + j]? = (t6 ++ ([(b7, c7, 32, ([], false)), (b8, c8, 32, ([], false))] ++ (tS ++ (n0 ++ (n1 ++ n2)))))[j]? := fun j => by rw [show 12 + j = 4 + (8 + j) by omega, w4]; exact apR g5
  have w20 : ∀ j, T[20 + j]? = ([(b7, c7, 32, ([], false)), (b8, c8, 32, ([], false))] ++ (tS ++ (n0 ++ (n1 ++ n2))))[j]? := fun j => by rw [show 20 + j = 12 + (8 + j) by omega, w12]; exact apR g6
  have w22 : ∀ j, T[22 + j]? = (tS ++ (n0 ++ (n1 ++ n2)))[j]? := fun j => by rw [show 22 + j = 20 + (2 + j) by omega, w20]; exact apR rfl
  have w28 : ∀ j, T[28 + j]? = (n0 ++ (n1 ++ n2))[j]? := fun j => by rw [show 28 + j = 22 + (6 + j) by omega, w22]; exact apR gS
  have w36 : ∀ j, T[36 + j]? = (n1 ++ n2)[j]? := fun j => by rw [show 36 + j = 28 + (8 + j) by omega, w28]; exact apR m0
  have w44 : ∀ j, T[44 + j]? = n2[j]? := fun j => by rw [show 44 + j = 36 + (8 + j) by omega, w36]; exact apR m1
  have v5 : ∀ j, j < 8 → T[4 + j]? = t5[j]? := fun j hj => by rw [w4]; exact apL (by omega)
  have v6 : ∀ j, j < 8 → T[12 + j]? = t6[j]? := fun j hj => by rw [w12]; exact apL (by omega)
  have vS : ∀ j, j < 6 → T[22 + j]? = tS[j]? := fun j hj => by rw [w22]; exact apL (by omega)
  have v0 : ∀ j, j < 8 → T[28 + j]? = n0[j]? := fun j hj => by rw [w28]; exact apL (by omega)
  have v1 : ∀ j, j < 8 → T[36 + j]? = n1[j]? := fun j hj => by rw [w36]; exact apL (by omega)
  have z0 : T[0]? = some (u1, q1, 16, ([], false)) := by rw [← hTT]; rfl
  have z1 : T[1]? = some (u2, q2, 16, ([], false)) := by rw [← hTT]; rfl
  have z2 : T[2]? = some (u3, q3, 256, ([], false)) := by rw [← hTT]; rfl
  have z3 : T[3]? = some (u4, q4, 256, ([], false)) := by rw [← hTT]; rfl
  have z20 : T[20]? = some (b7, c7, 32, ([], false)) := w20 0
  have z21 : T[21]? = some (b8, c8, 32, ([], false)) := w20 1
  have dS : ∀ j, j < 6 → ∃ b q, T[sgI j]? = some (b, q, 16, ([nI j], false)) := fun j hj => by
    obtain ⟨b, q, e⟩ := hT.2 j hj
    exact ⟨b, q, by rw [show sgI j = 22 + j by unfold sgI; rw [if_pos (by omega)]; omega, vS j hj]; exact e⟩
  have dN : ∀ k, k < 3 → ∀ j, j < 8 → ∃ b q, T[sgI (6 + 8 * k + j)]? = some (b, q, 16, ([nI j], false)) := fun k hk j hj => by
    have es : sgI (6 + 8 * k + j) = 28 + 8 * k + j := by unfold sgI; rw [if_pos (by omega)]; omega
    rw [es]
    match k, hk with
    | 0, _ => obtain ⟨b, q, e⟩ := M0.1.2 j hj; exact ⟨b, q, by rw [show 28 + 8 * 0 + j = 28 + j by omega, v0 j hj]; exact e⟩
    | 1, _ => obtain ⟨b, q, e⟩ := M1.1.2 j hj; exact ⟨b, q, by rw [show 28 + 8 * 1 + j = 36 + j by omega, v1 j hj]; exact e⟩
    | 2, _ => obtain ⟨b, q, e⟩ := M2.1.2 j hj; exact ⟨b, q, by rw [show 28 + 8 * 2 + j = 44 + j by omega, w44]; exact e⟩
  have dX : ∀ i, i < 52 → ∃ x : T4, T[sgI i]? = some x ∧ x.2.2.1 = rmI i := fun i hi => by
    rcases Nat.lt_or_ge i 6 with c | c
    · obtain ⟨b, q, e⟩ := dS i c
      exact ⟨_, e, by unfold rmI; rw [if_pos (by omega)]⟩
    · rcases Nat.lt_or_ge i 30 with c2 | c2
      · obtain ⟨b, q, e⟩ := dN ((i - 6) / 8) (by omega) ((i - 6) % 8) (by omega)
        rw [show 6 + 8 * ((i - 6) / 8) + (i - 6) % 8 = i by omega] at e
        exact ⟨_, e, by unfold rmI; rw [if_pos (by omega)]⟩
      · have es : sgI i = i - 30 := by unfold sgI; rw [if_neg (by omega)]
        rw [es]
        rcases Nat.lt_or_ge i 34 with c3 | c3
        · rcases (show i = 30 ∨ i = 31 ∨ i = 32 ∨ i = 33 by omega) with rfl | rfl | rfl | rfl
          · exact ⟨_, z0, rfl⟩
          · exact ⟨_, z1, rfl⟩
          · exact ⟨_, z2, rfl⟩
          · exact ⟨_, z3, rfl⟩
        · have r16 : i < 50 → (16 : Nat) = rmI i := fun h => by unfold rmI; rw [if_neg (by omega), if_neg (by omega), if_pos h]
          rcases Nat.lt_or_ge i 42 with c4 | c4
          · obtain ⟨b, q, e⟩ := L5.1.2 (i - 34) (by omega)
            exact ⟨(b, q, 16, ([nI (i - 34)], false)), by rw [show i - 30 = 4 + (i - 34) by omega, v5 _ (by omega)]; exact e, r16 (by omega)⟩
          · rcases Nat.lt_or_ge i 50 with c5 | c5
            · obtain ⟨b, q, e⟩ := L6.1.2 (i - 42) (by omega)
              exact ⟨(b, q, 16, ([nI (i - 42)], false)), by rw [show i - 30 = 12 + (i - 42) by omega, v6 _ (by omega)]; exact e, r16 (by omega)⟩
            · rcases (show i = 50 ∨ i = 51 by omega) with rfl | rfl
              · exact ⟨_, z20, rfl⟩
              · exact ⟨_, z21, rfl⟩
  have TSx : TS B Q h' (fun i => ((T[sgI i]?).map (fun t => t.2.2.2)).getD ([], false)) := fun i hi => by
    obtain ⟨x, hx, hr⟩ := dX i hi
    obtain ⟨eb, eq⟩ := hB i x hi hx
    have tm := (K.2.2.2.2.2.1 x (List.mem_of_getElem? hx)).2.2.2.2
    dsimp only
    rw [hx, eb, eq, ← hr]
    exact tm
  have b30 : B 30 = u1 := (hB 30 _ (by decide) z0).1
  have b31 : B 31 = u2 := (hB 31 _ (by decide) z1).1
  have b32 : B 32 = u3 := (hB 32 _ (by decide) z2).1
  have b33 : B 33 = u4 := (hB 33 _ (by decide) z3).1
  have b50 : B 50 = b7 := (hB 50 _ (by decide) z20).1
  have b51 : B 51 = b8 := (hB 51 _ (by decide) z21).1
  have q60 : Q 60 = r7 := hQ 0 _ (by decide) rfl
  have q61 : Q 61 = r8 := hQ 1 _ (by decide) rfl
  have q62 : Q 62 = s8 := hQ 2 _ (by decide) rfl
  have q63 : Q 63 = f8 := hQ 3 _ (by decide) rfl
  have q64 : Q 64 = d7 := hQ 4 _ (by decide) rfl
  have q65 : Q 65 = e7 := hQ 5 _ (by decide) rfl
  have q66 : Q 66 = d8 := hQ 6 _ (by decide) rfl
  have q67 : Q 67 = e8 := hQ 7 _ (by decide) rfl
  have q68 : Q 68 = d9 := hQ 8 _ (by decide) rfl
  have q69 : Q 69 = e9 := hQ 9 _ (by decide) rfl
  have eS : tS.map (fun t => t.1) = rgB B 0 6 := rg_eq gS (fun i x hi hx => by rw [Nat.zero_add]; exact (hB i x (by omega) (by rw [show sgI i = 22 + i by unfold sgI; rw [if_pos (by omega)]; omega, vS i hi]; exact hx)).1)
  have e0 : n0.map (fun t => t.1) = rgB B (6 + 8 * 0) 8 := rg_eq m0 (fun i x hi hx => (hB _ x (by omega) (by rw [show sgI (6 + 8 * 0 + i) = 28 + i by unfold sgI; rw [if_pos (by omega)]; omega, v0 i hi]; exact hx)).1)
  have e1 : n1.map (fun t => t.1) = rgB B (6 + 8 * 1) 8 := rg_eq m1 (fun i x hi hx => (hB _ x (by omega) (by rw [show sgI (6 + 8 * 1 + i) = 36 + i by unfold sgI; rw [if_pos (by omega)]; omega, v1 i hi]; exact hx)).1)
  have e2 : n2.map (fun t => t.1) = rgB B (6 + 8 * 2) 8 := rg_eq m2 (fun i x hi hx => (hB _ x (by omega) (by rw [show sgI (6 + 8 * 2 + i) = 44 + i by unfold sgI; rw [if_pos (by omega)]; omega, w44]; exact hx)).1)
  have e5 : t5.map (fun t => t.1) = rgB B 34 8 := rg_eq g5 (fun i x hi hx => (hB _ x (by omega) (by rw [show sgI (34 + i) = 4 + i by unfold sgI; rw [if_neg (by omega)]; omega, v5 i hi]; exact hx)).1)
  have e6 : t6.map (fun t => t.1) = rgB B 42 8 := rg_eq g6 (fun i x hi hx => (hB _ x (by omega) (by rw [show sgI (42 + i) = 12 + i by unfold sgI; rw [if_neg (by omega)]; omega, v6 i hi]; exact hx)).1)
  have rws : ∀ x ∈ ([(r7, 8), (d7, 128), (e7, 128), (r8, 32), (s8, 32), (f8, 8), (d8, 128), (e8, 128), (d9, 128), (e9, 128)] : List (Nat × Nat)), ∃ xs : List Int32, h' x.1 = some (107, xs.map Value.int) ∧ xs.length = x.2 := fun x hx => (K.2.2.2.2.2.2 x hx).2.2
  refine ⟨B, Q, fun i => [S, A, u5, u6, u7, u8, u9, a0, a1, a2, 0, 0, 0, p7, p8, p9].getD i 0, Y, ⟨_, ⟨TSx, ?_, ⟨?_, ?_, fun k hk => ?_, ?_, ?_⟩, ⟨0, 0, ?_⟩, ?_, ?_, fun k hk => ?_, fun j h1 h2 => ?_⟩, ⟨fun j hj => ?_, fun k hk => ?_⟩, st0_ok⟩, Hfr⟩
  · show h' o = some (8, [.ref S, .ref A, .int 0, .int 0, .int 0, .ref (B 30), .ref (B 31), .ref (B 32), .ref (B 33), .ref u5, .ref u6, .ref u7, .ref u8, .ref u9])
    rw [b30, b31, b32, b33]
    exact ho
  · show h' S = _
    rw [← eS]
    exact hS
  · show h' A = some (104, ([a0, a1, a2] : List Nat).map Value.ref)
    exact hA
  · match k, hk with
    | 0, _ => exact ⟨by decide, x0, M0.2.2.2.1, by rw [← e0]; exact M0.2.2.2.2⟩
    | 1, _ => exact ⟨by decide, x1, M1.2.2.2.1, by rw [← e1]; exact M1.2.2.2.2⟩
    | 2, _ => exact ⟨by decide, x2, M2.2.2.2.1, by rw [← e2]; exact M2.2.2.2.2⟩
  · exact ⟨by decide, ar5, L5.2.2.2.1, by rw [← e5]; exact L5.2.2.2.2⟩
  · exact ⟨by decide, ar6, L6.2.2.2.1, by rw [← e6]; exact L6.2.2.2.2⟩
  · show h' u7 = some (6, [.ref (B 50), .ref (Q 60), .ref p7, .int 0, .int 0])
    rw [b50, q60]
    exact O7
  · show h' u8 = some (3, [.ref (B 51), .ref (Q 61), .ref (Q 62), .ref (Q 63), .ref p8])
    rw [b51, q61, q62, q63]
    exact O8
  · exact O9
  · match k, hk with
    | 0, _ => exact ⟨0, by decide, by show h' p7 = some (4, [.ref (Q 64), .ref (Q 65), vI 0]); rw [q64, q65]; exact O7p⟩
    | 1, _ => exact ⟨0, by decide, by show h' p8 = some (4, [.ref (Q 66), .ref (Q 67), vI 0]); rw [q66, q67]; exact O8p⟩
    | 2, _ => exact ⟨0, by decide, by show h' p9 = some (4, [.ref (Q 68), .ref (Q 69), vI 0]); rw [q68, q69]; exact O9p⟩
  · rcases (show j = 60 ∨ j = 61 ∨ j = 62 ∨ j = 63 ∨ j = 64 ∨ j = 65 ∨ j = 66 ∨ j = 67 ∨ j = 68 ∨ j = 69 by omega) with rfl | rfl | rfl | rfl | rfl | rfl | rfl | rfl | rfl | rfl
    · rw [q60]; exact rws (r7, 8) (by simp)
    · rw [q61]; exact rws (r8, 32) (by simp)
    · rw [q62]; exact rws (s8, 32) (by simp)
    · rw [q63]; exact rws (f8, 8) (by simp)
    · rw [q64]; exact rws (d7, 128) (by simp)
    · rw [q65]; exact rws (e7, 128) (by simp)
    · rw [q66]; exact rws (d8, 128) (by simp)
    · rw [q67]; exact rws (e8, 128) (by simp)
    · rw [q68]; exact rws (d9, 128) (by simp)
    · rw [q69]; exact rws (e9, 128) (by simp)
  · obtain ⟨b, q, e⟩ := dS j hj
    exact ⟨[j], sl0_get j hj, by dsimp only; rw [e]; rfl⟩
  · refine ⟨rw0, ?_, rfl, fun n hn => ?_⟩
    · match k, hk with
      | 0, _ => rfl
      | 1, _ => rfl
      | 2, _ => rfl
    · obtain ⟨b, q, e⟩ := dN k hk n hn
      exact ⟨[n], rw0_get n hn, by dsimp only; rw [e]; rfl, TW.name hn, Nat.le_of_ble_eq_true rfl⟩
end Uf04st0
section Uf05ref0
/-! the reference's constructor, exactly (printed by wip/p20/genN4.py) -/
section F05
variable {la : Launch} {D : va_G} {cA : Nat → ClassId} {B0 pa : Nat} {o : Nat}
set_option maxHeartbeats 8000000 in
theorem RF.c_init10 (h : AH) (ho : h o = some (12, [.null, .null, .int 0, .int 0, .int 0, .int 0])) : CT la D cA B0 pa yX10_init cX10_init 2 none (rmD 2 35 63) [.ref o] h (fun v h' => v = none ∧ (∃ S A, h S = none ∧ h A = none ∧ MD h' o S A st0.1 st0.2.1 0 0 0 0) ∧ Fo o h h') := by
  refine CT_of (by decide +kernel) (Nat.le_of_ble_eq_true rfl) ?_
  intro p e s m args below meth c X E hr hlk hnm
  have dk : ∀ {pc : Nat} {q : Instr × Nat}, lkd DX10_init pc = some q → decode cX10_init pc = .ok q := lkd_ok DX10_init_ok
  repeat refine fst1_ok X (dk rfl) rfl ?_
  refine obj_ok X ml10_obj (dk rfl) (Nat.le_of_ble_eq_true rfl) (Nat.le_of_ble_eq_true rfl) (Nat.le_of_ble_eq_true rfl) ?_
  repeat refine fst1_ok X (dk rfl) rfl ?_
  refine newR_ok (N := 6) (kd := 105) X E (by decide) cl10_9 (by decide) (dk rfl) (by decide) (by decide) (fun S hS hBS => ?_)
  have XS := Ext.new hS ((105, List.replicate 6 Value.null) : AC)
  have hoS : o ≠ S := fun z => by rw [← z, ho] at hS; cases hS
  refine putf_ok X flX10_11 ftX10_0 (Or.inr ⟨by rw [hnm]; rfl, RX10, TX10, 6, rfl, rfl⟩) rfl rfl (dk rfl) (XS _ _ ho) (Nat.le_of_ble_eq_true rfl) ?_
  have ho1 : hup (hup h S (105, List.replicate 6 Value.null)) o (12, [Value.null, .null, .int 0, .int 0, .int 0, .int 0].set 0 (.ref S)) o = some (12, [Value.ref S, .null, .int 0, .int 0, .int 0, .int 0]) := hup_self _ _ _
  have hS1 : hup (hup h S (105, List.replicate 6 Value.null)) o (12, [Value.null, .null, .int 0, .int 0, .int 0, .int 0].set 0 (.ref S)) S = some (105, filR [] 6) := by rw [hup_ne _ _ hoS.symm, hup_self, filR_0]
  have F1 : Fo o h (hup (hup h S (105, List.replicate 6 Value.null)) o (12, [Value.null, .null, .int 0, .int 0, .int 0, .int 0].set 0 (.ref S))) := fun b c hb e => by rw [hup_ne _ _ hb]; exact XS _ _ e
  generalize hup (hup h S (105, List.replicate 6 Value.null)) o (12, [Value.null, .null, .int 0, .int 0, .int 0, .int 0].set 0 (.ref S)) = h1 at ho1 hS1 F1
  repeat refine fst1_ok X (dk rfl) rfl ?_
  refine newR_ok (N := 3) (kd := 106) X E (by decide) cl10_15 (by decide) (dk rfl) (Nat.le_of_ble_eq_true rfl) (Nat.le_of_ble_eq_true rfl) (fun A hA hBA => ?_)
  have XA := Ext.new hA ((106, List.replicate 3 Value.null) : AC)
  have hoA : o ≠ A := fun z => by rw [← z, ho1] at hA; cases hA
  have hSA : S ≠ A := fun z => by rw [← z, hS1] at hA; cases hA
  refine putf_ok X flX10_16 ftX10_1 (Or.inr ⟨by rw [hnm]; rfl, RX10, TX10, 6, rfl, rfl⟩) rfl rfl (dk rfl) (XA _ _ ho1) (Nat.le_of_ble_eq_true rfl) ?_
  have ho2 : hup (hup h1 A (106, List.replicate 3 Value.null)) o (12, [Value.ref S, .null, .int 0, .int 0, .int 0, .int 0].set 1 (.ref A)) o = some (12, [Value.ref S, .ref A, .int 0, .int 0, .int 0, .int 0]) := hup_self _ _ _
  have hA2 : hup (hup h1 A (106, List.replicate 3 Value.null)) o (12, [Value.ref S, .null, .int 0, .int 0, .int 0, .int 0].set 1 (.ref A)) A = some (106, filR [] 3) := by rw [hup_ne _ _ hoA.symm, hup_self, filR_0]
  have hS2 : hup (hup h1 A (106, List.replicate 3 Value.null)) o (12, [Value.ref S, .null, .int 0, .int 0, .int 0, .int 0].set 1 (.ref A)) S = some (105, filR [] 6) := by rw [hup_ne _ _ hoS.symm]; exact XA _ _ hS1
  have F2 : Fo o h (hup (hup h1 A (106, List.replicate 3 Value.null)) o (12, [Value.ref S, .null, .int 0, .int 0, .int 0, .int 0].set 1 (.ref A))) := fun b c hb e => by rw [hup_ne _ _ hb]; exact XA _ _ (F1 b c hb e)
  have hAn : h A = none := by
    cases hz : h A with
    | none => rfl
    | some c => have := F1 A c hoA.symm hz; rw [hA] at this; cases this
  generalize hup (hup h1 A (106, List.replicate 3 Value.null)) o (12, [Value.ref S, .null, .int 0, .int 0, .int 0, .int 0].set 1 (.ref A)) = h2 at ho2 hA2 hS2 F2
  -- the answers
  have loopA : ∀ (d i : Nat), d = 3 - i → i ≤ 3 → ∀ (hh : AH) (as : List Nat) (l : List (Nat × Value)), lsel l [1, 0] = [(1, vI i), (0, .ref o)] → as.length = i → hh o = some (12, [Value.ref S, .ref A, .int 0, .int 0, .int 0, .int 0]) → Ans hh S [[0], [1], [2], [3], [4], [5]] → hh A = some (106, filR as 3) → S ∉ as → (∀ k b : Nat, as[k]? = some b → Ans hh b [[0], [1], [2], [3], [4], [5], [6], [7]]) → Fo o h hh →
      WR p la e (rmD 2 35 63) s m args below meth c D cA B0 2 (fun v h' => v = none ∧ (∃ S A, h S = none ∧ h A = none ∧ MD h' o S A st0.1 st0.2.1 0 0 0 0) ∧ Fo o h h') 47 l [] hh (8 + 9 * i) (15 + 16 * i) := by
    intro d
    induction d with
    | zero =>
      intro i hd hi hh as l hl hla hoh hSh hAh hSn has FF
      have hi2 : i = 3 := by omega
      subst hi2
      refine WS.sel [1, 0] hl ?_
      repeat refine fst1_ok X (dk rfl) rfl ?_
      refine br_ok X (dk rfl) rfl (show ((49 : Nat) : Int) + 18 = ((67 : Nat) : Int) from rfl) (fun _ => ?_) (fun c1 => absurd (by decide) c1)
      refine retv_ok X hr hlk (dk rfl) ⟨rfl, ⟨S, A, hS, hAn, hoh, hSh, rfl, fun r hr => ?_, as, hla, rfl, by rw [hAh, ← hla, filR_end], hSn, fun k b rows e1 e2 => ?_⟩, FF⟩ (Nat.le_of_ble_eq_true rfl) (Nat.le_of_ble_eq_true rfl)
      · have hr : r ∈ ([[0], [1], [2], [3], [4], [5]] : List (List Nat)) := hr
        simp only [List.mem_cons, List.not_mem_nil, or_false] at hr
        rcases hr with rfl | rfl | rfl | rfl | rfl | rfl <;> exact ⟨TW.name (by omega), by decide⟩
      · have e2 : (List.replicate 3 rw0)[k]? = some rows := e2
        rw [List.getElem?_replicate] at e2
        split at e2
        · cases e2; exact ⟨has k b e1, AO_none⟩
        · cases e2
    | succ d ih =>
      intro i hd hi hh as l hl hla hoh hSh hAh hSn has FF
      have f2 : Value.int (nI i + Int32.ofInt 1) = vI (i + 1) := congrArg Value.int (by rw [nI_1', nI_add])
      refine WS.sel [1, 0] hl ?_
      repeat refine fst1_ok X (dk rfl) rfl ?_
      refine br_ok X (dk rfl) rfl (show ((49 : Nat) : Int) + 18 = ((67 : Nat) : Int) from rfl) (fun c1 => absurd c1 (nI_ge (a := i) (b := 3) (by omega) (by omega))) (fun _ => ?_)
      refine fst1_ok X (dk rfl) rfl ?_
      refine getf_ok X flX10_16 (dk rfl) hoh rfl ?_
      refine fst1_ok X (dk rfl) rfl ?_
      refine callS_ok (av := []) (r := [vI i, .ref A]) X E (c_none hh) lkX10_none mlX10_24 lsX10_none ⟨Nat.le_of_ble_eq_true rfl, Nat.le_of_ble_eq_true rfl⟩ ⟨by show 8 + 9 * i + 9 ≤ 35; omega, by show 15 + 16 * i + 16 ≤ 63; omega⟩ (Nat.le_of_ble_eq_true rfl) (dk rfl) ?_
      rintro v h3 ⟨N, rfl, hN, hBN, XN, nN⟩
      obtain ⟨vn, kn1⟩ := nN.kind
      obtain ⟨vS, kS⟩ := hSh.kind
      have hA3 := XN _ _ hAh
      refine sta_ok X (dk rfl) hA3 kn1 (by rw [filR_len (by omega)]; omega) (by rw [filR_len (by omega)]; omega) ?_
      rw [show (filR as 3).set i (.ref N) = filR (as ++ [N]) 3 by rw [← hla]; exact filR_set (by omega)]
      repeat refine fst1_ok X (dk rfl) rfl ?_
      refine br_ok X (dk rfl) rfl (show ((64 : Nat) : Int) + (-17) = ((47 : Nat) : Int) from rfl) (fun _ => ?_) (fun q => absurd trivial q)
      refine WS.widen (k' := 8 + 9 * (i + 1)) (n' := 15 + 16 * (i + 1)) (by show 8 + 9 * i + 9 ≤ 8 + 9 * (i + 1); omega) (by show 15 + 16 * i + 16 ≤ 15 + 16 * (i + 1); omega) ?_
      refine WS.sel (l' := [(1, vI (i + 1)), (0, .ref o)]) [1, 0] (by rw [← f2]; rfl) ?_
      have hAk : ∀ {b : Nat} {rows : List (List Nat)}, Ans h3 b rows → Ans (hup h3 A (106, filR (as ++ [N]) 3)) b rows := fun {b rows} H => by
        obtain ⟨vb, hb⟩ := H.kind
        exact H.hup (k_ne hA3 hb (by decide)) hA3 (by decide) _
      refine ih (i + 1) (by omega) (by omega) _ (as ++ [N]) _ rfl (by rw [List.length_append, hla]; rfl) (by rw [hup_ne _ _ (k_ne (XN _ _ hoh) hA3 (by decide))]; exact XN _ _ hoh) (hAk (hSh.ext XN)) (hup_self _ _ _) ?_ ?_ ?_
      · intro z
        rcases List.mem_append.mp z with q | q
        · exact hSn q
        · simp at q
          rw [← q, kS] at hN
          cases hN
      · intro k b hk
        rcases Nat.lt_or_ge k as.length with q | q
        · rw [List.getElem?_append_left q] at hk
          exact hAk ((has k b hk).ext XN)
        · have hk2 : k = as.length := by have := (List.getElem?_eq_some_iff.mp hk).1; rw [List.length_append, List.length_singleton] at this; omega
          rw [hk2, List.getElem?_concat_length] at hk
          cases hk
          exact hAk nN
      · intro b c hb e
        rw [hup_ne _ _ (fun z => by rw [z, hAn] at e; cases e)]
        exact XN _ _ (FF b c hb e)
  -- the slots
  have loopS : ∀ (d i : Nat), d = 6 - i → i ≤ 6 → ∀ (hh : AH) (as : List Nat) (l : List (Nat × Value)), lsel l [1, 0] = [(1, vI i), (0, .ref o)] → as.length = i → hh o = some (12, [Value.ref S, .ref A, .int 0, .int 0, .int 0, .int 0]) → hh S = some (105, filR as 6) → hh A = some (106, filR [] 3) → (∀ k b : Nat, as[k]? = some b → hh b = some (IA [k])) → Fo o h hh →
      WR p la e (rmD 2 35 63) s m args below meth c D cA B0 2 (fun v h' => v = none ∧ (∃ S A, h S = none ∧ h A = none ∧ MD h' o S A st0.1 st0.2.1 0 0 0 0) ∧ Fo o h h') 23 l [] hh (2 + i) (9 + i) := by
    intro d
    induction d with
    | zero =>
      intro i hd hi hh as l hl hla hoh hSh hAh has FF
      have hi2 : i = 6 := by omega
      subst hi2
      refine WS.sel [1, 0] hl ?_
      repeat refine fst1_ok X (dk rfl) rfl ?_
      refine br_ok X (dk rfl) rfl (show ((26 : Nat) : Int) + 19 = ((45 : Nat) : Int) from rfl) (fun _ => ?_) (fun c1 => absurd (by decide) c1)
      iterate 2 refine fst1_ok X (dk rfl) rfl ?_
      refine loopA 3 0 rfl (Nat.zero_le _) hh [] _ rfl rfl hoh ⟨as, hla, by rw [hSh, ← hla, filR_end], fun k a r e1 e2 => ?_⟩ hAh (by simp) (fun k b hk => by simp at hk) FF
      have h4 := has k a e1
      have hk6 : k < 6 := by rw [← hla]; exact (List.getElem?_eq_some_iff.mp e1).1
      have e3 : ([[0], [1], [2], [3], [4], [5]] : List (List Nat))[k]? = some [k] := by
        match k, hk6 with
        | 0, _ => rfl
        | 1, _ => rfl
        | 2, _ => rfl
        | 3, _ => rfl
        | 4, _ => rfl
        | 5, _ => rfl
      cases e2.symm.trans e3
      exact h4
    | succ d ih =>
      intro i hd hi hh as l hl hla hoh hSh hAh has FF
      have f2 : Value.int (nI i + Int32.ofInt 1) = vI (i + 1) := congrArg Value.int (by rw [nI_1', nI_add])
      refine WS.sel [1, 0] hl ?_
      repeat refine fst1_ok X (dk rfl) rfl ?_
      refine br_ok X (dk rfl) rfl (show ((26 : Nat) : Int) + 19 = ((45 : Nat) : Int) from rfl) (fun c1 => absurd c1 (nI_ge (a := i) (b := 6) (by omega) (by omega))) (fun _ => ?_)
      refine fst1_ok X (dk rfl) rfl ?_
      refine getf_ok X flX10_11 (dk rfl) hoh rfl ?_
      repeat refine fst1_ok X (dk rfl) rfl ?_
      refine callS_ok (av := [vI i]) (r := [vI i, .ref S]) X E (c_row hh i) lkX10_row mlX10_20 lsX10_row ⟨Nat.le_of_ble_eq_true rfl, Nat.le_of_ble_eq_true rfl⟩ ⟨by show 2 + i + 1 ≤ 35; omega, by show 9 + i + 1 ≤ 63; omega⟩ (Nat.le_of_ble_eq_true rfl) (dk rfl) ?_
      rintro v h3 ⟨q, rfl, hq, hBq, rfl⟩
      have XN := Ext.new hq (IA [i])
      have hS3 := XN _ _ hSh
      refine str_ok X (dk rfl) hS3 (hup_self _ _ _) (by rw [filR_len (by omega)]; omega) (by rw [filR_len (by omega)]; omega) ?_
      rw [show (filR as 6).set i (.ref q) = filR (as ++ [q]) 6 by rw [← hla]; exact filR_set (by omega)]
      repeat refine fst1_ok X (dk rfl) rfl ?_
      refine br_ok X (dk rfl) rfl (show ((42 : Nat) : Int) + (-19) = ((23 : Nat) : Int) from rfl) (fun _ => ?_) (fun q => absurd trivial q)
      refine WS.sel (l' := [(1, vI (i + 1)), (0, .ref o)]) [1, 0] (by rw [← f2]; rfl) ?_
      have kI : ∀ {b : Nat} {x : List Nat}, hup hh q (IA [i]) b = some (IA x) → hup (hup hh q (IA [i])) S (105, filR (as ++ [q]) 6) b = some (IA x) := fun {b x} hb => by rw [hup_ne _ _ (IA_ne hb hS3)]; exact hb
      refine ih (i + 1) (by omega) (by omega) _ (as ++ [q]) _ rfl (by rw [List.length_append, hla]; rfl) (by rw [hup_ne _ _ (k_ne (XN _ _ hoh) hS3 (by decide))]; exact XN _ _ hoh) (hup_self _ _ _) (by rw [hup_ne _ _ (k_ne (XN _ _ hAh) hS3 (by decide))]; exact XN _ _ hAh) ?_ ?_
      · intro k b hk
        rcases Nat.lt_or_ge k as.length with z | z
        · rw [List.getElem?_append_left z] at hk
          exact kI (XN _ _ (has k b hk))
        · have hk2 : k = as.length := by have := (List.getElem?_eq_some_iff.mp hk).1; rw [List.length_append, List.length_singleton] at this; omega
          rw [hk2, List.getElem?_concat_length] at hk
          cases hk
          rw [hk2, hla]
          exact kI (hup_self _ _ _)
      · intro b c hb e
        rw [hup_ne _ _ (fun z => by rw [z, hS] at e; cases e)]
        exact XN _ _ (FF b c hb e)
  iterate 2 refine fst1_ok X (dk rfl) rfl ?_
  exact loopS 6 0 rfl (Nat.zero_le _) h2 [] _ rfl rfl ho2 hS2 hA2 (fun k b hk => by simp at hk) F2

end F05
end Uf05ref0
section Uf11q1
/-! the class's questions, exactly (printed by wip/q/genQ1.py) -/
/-- the first number at which something holds -/
def fsF (p : Nat → Bool) : Nat → Nat → Option Nat
  | 0, _ => none
  | n + 1, k => if p k = true then some k else fsF p n (k + 1)
def aMoved (x1 : Int32) (st : ST) : RS := if okI 3 x1 then ((0, nI (movedN (st.2.1.getD (xI x1) []) 8)), st) else ((1, 0), st)
section Q11
variable {la : Launch} {D : va_G} {cA : Nat → ClassId} {B0 pa : Nat} {B Q P : Nat → Nat} {ox : Nat} {kn d r : Int32} {F : Nat → TC}
set_option maxHeartbeats 8000000 in
theorem s6_moved (h : AH) (hl : la.stackTraces = false) (Y : LYO B Q) {st : ST} (C0 : StC B Q P ox kn h st) (x1 : Int32) : CTX la D cA B0 pa yX6_moved cX6_moved 2 (some .int) (rmD 7 1 6) [.ref ox, .int x1] h (AP B Q P ox kn (aMoved x1 st) h) (AX (aMoved x1 st) st h) := by
  refine CTX_of (by decide +kernel) (Nat.le_of_ble_eq_true rfl) ?_
  intro p e s m args below meth c X E hr hlk hnm ht
  have dk : ∀ {pc : Nat} {q : Instr × Nat}, lkd DX6_moved pc = some q → decode cX6_moved pc = .ok q := lkd_ok DX6_moved_ok
  obtain ⟨F, C, H, O⟩ := id C0
  iterate 2 refine fst1_ok X (dk rfl) rfl ?_
  refine callVX_ok (ci := 8) (T := TX6) (N := 14) (av := [.int x1]) (r := []) X E ht hlk (s6_answerOf h hl C x1) (fun E1 h1 z => AX.one (by unfold aMoved; rw [if_neg (by rw [okI_f z.2.1]; decide)]) ⟨z.1, z.2.2⟩) lkX6_answerOf mlX6_151 lmX6_answerOf lpX6_answerOf ⟨Nat.le_of_ble_eq_true rfl, Nat.le_of_ble_eq_true rfl⟩ ⟨Nat.le_of_ble_eq_true rfl, Nat.le_of_ble_eq_true rfl⟩ rfl C.2.1 (Nat.le_of_ble_eq_true rfl) (dk rfl) ?_
  rintro _ h1 ⟨⟨k, hk, rfl, rfl⟩, eh⟩
  obtain rfl := eh.symm
  obtain ⟨rows, sk, rk⟩ := H.2 k hk
  have ok := C.2.2.1.2.2.1 k hk
  refine callVR_ok (ci := 2) (T := TX0) (N := 1) (av := []) (r := []) X E (s0_movedNames _ C.1 ok rk) lkX0_movedNames mlX6_219 lmX0_movedNames lpX0_movedNames ⟨Nat.le_of_ble_eq_true rfl, Nat.le_of_ble_eq_true rfl⟩ ⟨Nat.le_of_ble_eq_true rfl, Nat.le_of_ble_eq_true rfl⟩ rfl ⟨_, ok.2.choose_spec.1⟩ (Nat.le_of_ble_eq_true rfl) (dk rfl) ?_
  rintro _ rfl
  have e : aMoved (nI k) st = ((0, nI (movedN rows 8)), st) := by
    unfold aMoved
    rw [if_pos (okI_t hk (by decide)), xI_n (by omega), getD_of sk]
  rw [e]
  refine WRX.ret ?_
  exact reti_ok X hr hlk rfl (dk rfl) (⟨rfl, rfl, ⟨F, C, H, O⟩, FrC.rf _⟩) (Nat.le_of_ble_eq_true rfl) (Nat.le_of_ble_eq_true rfl)
end Q11
end Uf11q1
section Uf12r1
/-! the reference's questions, exactly (printed by wip/q/genR1.py) -/
section R12
variable {la : Launch} {D : va_G} {cA : Nat → ClassId} {B0 pa : Nat} {o S A : Nat} {sl : List (List Nat)} {an : List (List (List Nat))} {da dr kn th : Int32}
set_option maxHeartbeats 4000000 in
theorem RF.x_moved (h : AH) (M : MD h o S A sl an da dr kn th) (x1 : Int32) : CT la D cA B0 pa yX10_moved cX10_moved 2 (some .int) (rmD 4 8 8) [.ref o, .int x1] h (refR o S A kn (aMoved x1 (sl, an, da, dr)) h) := by
  refine CT_of (by decide +kernel) (Nat.le_of_ble_eq_true rfl) ?_
  intro p e s m args below meth c X E hr hlk hnm
  have dk : ∀ {pc : Nat} {q : Instr × Nat}, lkd DX10_moved pc = some q → decode cX10_moved pc = .ok q := lkd_ok DX10_moved_ok
  have mid1 : ∀ t1 : Bool, (t1 = false → inN 3 x1) → (t1 = true → ¬ (inN 3 x1)) → WR p la e (rmD 4 8 8) s m args below meth c D cA B0 2 (refR o S A kn (aMoved x1 (sl, an, da, dr)) h) 13 (lv_args 0 [.ref o, .int x1]) [.int (bI t1), .ref o] h 0 0 := by
    intro t1 ht1 hn1
    refine thr1_ok X E M ⟨Nat.le_of_ble_eq_true rfl, Nat.le_of_ble_eq_true rfl⟩ ⟨Nat.le_of_ble_eq_true rfl, Nat.le_of_ble_eq_true rfl⟩ (Nat.le_of_ble_eq_true rfl) (dk rfl) (fun h1 M1 F1 => ?_)
    cases hb : t1 with
    | true =>
      have hT1 : ¬ (inN 3 x1) → aMoved x1 (sl, an, da, dr) = ((1, 0), (sl, an, da, dr)) := (fun hn => by
          unfold aMoved
          by_cases q0 : okI 3 x1 = true
          rotate_left
          · exact if_neg q0
          rw [if_pos q0]
          exact absurd (okI_in (by decide) q0) hn)
      have hE : aMoved x1 (sl, an, da, dr) = ((thI t1 false, 0), (sl, an, da, dr)) := by
        rw [hb]
        exact hT1 (hn1 hb)
      refine br_ok X (dk rfl) rfl (show ((16 : Nat) : Int) + 7 = ((23 : Nat) : Int) from rfl) (fun q => absurd q bI_t) (fun _ => ?_)
      refine fst1_ok X (dk rfl) rfl ?_
      refine br_ok X (dk rfl) rfl (show ((20 : Nat) : Int) + 12 = ((32 : Nat) : Int) from rfl) (fun _ => ?_) (fun q => absurd trivial q)
      exact reti_ok X hr hlk rfl (dk rfl) (refR_thr M1 F1 hE (by decide +kernel)) (Nat.zero_le _) (Nat.zero_le _)
    | false =>
      refine br_ok X (dk rfl) rfl (show ((16 : Nat) : Int) + 7 = ((23 : Nat) : Int) from rfl) (fun _ => ?_) (fun q => absurd bI_f' q)
      obtain ⟨j1, hj1, rfl⟩ := ht1 hb
      have M1 : MD h1 o S A sl an da dr kn (nI 0) := by
        rw [hb] at M1
        exact M1
      obtain ⟨ss, s1, s2, s3⟩ := M1.slot
      obtain ⟨as, a1, a2, a3⟩ := M1.ans
      obtain ⟨b1, y1, e1, f1, g1, w1, n1⟩ := a3 j1 hj1
      repeat refine fst1_ok X (dk rfl) rfl ?_
      refine getf_ok X flX10_16 (dk rfl) M1.obj rfl ?_
      refine fst1_ok X (dk rfl) rfl ?_
      refine lda_ok X (dk rfl) a2 e1 (by omega) ?_
      refine callS_ok (av := [.ref b1]) (r := []) X E (c_movedBy h1 g1 w1) lkX10_movedBy mlX10_141 lsX10_movedBy ⟨Nat.le_of_ble_eq_true rfl, Nat.le_of_ble_eq_true rfl⟩ ⟨Nat.le_of_ble_eq_true rfl, Nat.le_of_ble_eq_true rfl⟩ (Nat.le_of_ble_eq_true rfl) (dk rfl) ?_
      rintro v h2 ⟨rfl, E1⟩
      exact reti_ok X hr hlk rfl (dk rfl) (refR_ok (M1.ext E1) (F1.trans (Fr.ext E1)) (by unfold aMoved; dsimp only; rw [if_pos (okI_t hj1 (by decide)), xI_n (by omega), getD_of f1]; first | done | rfl)) (Nat.le_of_ble_eq_true rfl) (Nat.le_of_ble_eq_true rfl)
  iterate 2 refine fst1_ok X (dk rfl) rfl ?_
  refine isAnswer_ok X E mlX10_135 ⟨Nat.le_of_ble_eq_true rfl, Nat.le_of_ble_eq_true rfl⟩ ⟨Nat.le_of_ble_eq_true rfl, Nat.le_of_ble_eq_true rfl⟩ (Nat.le_of_ble_eq_true rfl) (dk rfl) (fun mid1b0 mid1h0 mid1n0 => ?_)
  cases mid1b0 with
  | false =>
    refine br_ok X (dk rfl) rfl (show ((5 : Nat) : Int) + 7 = ((12 : Nat) : Int) from rfl) (fun q => absurd q bI_f) (fun _ => ?_)
    refine fst1_ok X (dk rfl) rfl ?_
    refine br_ok X (dk rfl) rfl (show ((9 : Nat) : Int) + 4 = ((13 : Nat) : Int) from rfl) (fun _ => ?_) (fun q => absurd trivial q)
    exact mid1 true (fun z => by cases z) (fun _ hh => absurd (hh) (mid1n0 rfl))
  | true =>
    refine br_ok X (dk rfl) rfl (show ((5 : Nat) : Int) + 7 = ((12 : Nat) : Int) from rfl) (fun _ => ?_) (fun q => absurd bI_t q)
    refine fst1_ok X (dk rfl) rfl ?_
    exact mid1 false (fun _ => mid1h0 rfl) (fun z => by cases z)
end R12
end Uf12r1
section Uf13q2
/-! the class's questions, exactly, further (printed by wip/q/genQ2.py) -/
theorem RWX.cg {F F' : Nat → TC} {f : Nat} {rows : List (List Nat)} (H : RWX F f rows) (e : ∀ n, n < 8 → F' (f + n) = F (f + n)) : RWX F' f rows := ⟨H.1, fun n hn => by
  obtain ⟨ns, g1, g2, g3⟩ := H.2 n hn
  exact ⟨ns, g1, by rw [e n hn]; exact g2, g3⟩⟩
section Q13
variable {la : Launch} {D : va_G} {cA : Nat → ClassId} {B0 pa : Nat} {B Q P : Nat → Nat} {ox : Nat} {kn d r : Int32} {F : Nat → TC}
end Q13
end Uf13q2
section Uf14r2
/-! the reference's questions, exactly, further (printed by wip/q/genR2.py) -/
def szN (sl : List (List Nat)) : Nat → Nat
  | 0 => 0
  | k + 1 => szN sl k + (sl.getD k []).length
def mvN (an : List (List (List Nat))) : Nat → Int32
  | 0 => 0
  | k + 1 => mvN an k + bcF (nI (movedN (an.getD k []) 8))
def hsN (kn : Int32) (q : Nat) (st : ST) : Int32 := if q = 0 then st.2.2.1 else if q = 1 then st.2.2.2 else if q = 2 then kn else if q = 3 then nI (szN st.1 6) else mvN st.2.1 3
section R14
variable {la : Launch} {D : va_G} {cA : Nat → ClassId} {B0 pa : Nat} {o S A : Nat} {sl : List (List Nat)} {an : List (List (List Nat))} {da dr kn th : Int32}
end R14
end Uf14r2
section Uf18q5
/-! how many unlike terms stand in a row of terms (printed by wip/q/genQ5.py) -/
/-- terms behind each other -/
def GX (X : List Nat) : Prop := (∃ n, endL n X = some X.length) ∧ (∀ x ∈ X, okL x) ∧ X.length ≤ 256
theorem GX.tl {X : List Nat} (h : GX X) {p : Nat} (hp : p < X.length) : endL 1 (X.drop p) = some (tl X p) ∧ 0 < tl X p ∧ p + tl X p ≤ X.length := by
  obtain ⟨⟨n, hn⟩, -, -⟩ := h
  obtain ⟨k, hk⟩ := endL_at X n p hn hp
  have h1 := endL_le hk
  rw [List.length_drop] at h1
  rw [tl_of hk]
  exact ⟨hk, endL_pos (n := 0) hk, by omega⟩
section Q18
variable {la : Launch} {D : va_G} {cA : Nat → ClassId} {B0 pa : Nat} {B Q P : Nat → Nat} {ox : Nat} {kn d r : Int32} {F : Nat → TC}
end Q18
end Uf18q5
section Uf19r5
/-! the reference's shared size, exactly (printed by wip/q/genR5.py) -/
theorem RO.at {rows : List (List Nat)} (h : RO rows) {t : Nat} {r : List Nat} (ht : rows[t]? = some r) : TW r ∧ r.length ≤ 16 := h.2 r (List.mem_of_getElem? ht)
section R19
variable {la : Launch} {D : va_G} {cA : Nat → ClassId} {B0 pa : Nat} {o S A : Nat} {sl : List (List Nat)} {an : List (List (List Nat))} {da dr kn th : Int32}
end R19
end Uf19r5
section Uf30uni
/-! what makes two terms alike: steps and classes tell the same (written by hand) -/
/-- what is told of names fits what names stand for -/
def Sat (X : List Nat) (S : SS) (g : Nat → List Nat) : Prop := ∀ x q, S x = some q → g x = exF g (sub' X q)
theorem sat_dpF {X : List Nat} (hX : BX X) {S : SS} (hS : S1 X S) {g : Nat → List Nat} (H : Sat X S g) : ∀ f p, p < X.length → exF g (sub' X (dpF X S f p)) = exF g (sub' X p)
  | 0, _, _ => rfl
  | f + 1, p, hp => by
    unfold dpF
    by_cases c : gl X p < 10
    · rw [if_pos c]
      cases e : S (gl X p) with
      | none => rfl
      | some q =>
        show exF g (sub' X (dpF X S f q)) = _
        rw [sat_dpF hX hS H f q (hS _ _ e).2.1, exF_nm hX g hp c, H _ _ e]
    · rw [if_neg c]
theorem cK_inj {W : Nat → List Nat} {X : List Nat} {p q : Nat} : ∀ (n j : Nat), (∀ i, j ≤ i → i < j + n → endL 1 (W (ko X p i)) = some (W (ko X p i)).length ∧ endL 1 (W (ko X q i)) = some (W (ko X q i)).length) → cK W X p n j = cK W X q n j → ∀ i, j ≤ i → i < j + n → W (ko X p i) = W (ko X q i)
  | 0, j, _, _, i, h1, h2 => by omega
  | n + 1, j, hw, h, i, h1, h2 => by
    have e : W (ko X p j) ++ cK W X p n (j + 1) = W (ko X q j) ++ cK W X q n (j + 1) := h
    obtain ⟨a1, a2⟩ := hw j (Nat.le_refl _) (by omega)
    have b1 := endL_app _ (cK W X p n (j + 1)) _ _ a1
    have b2 := endL_app _ (cK W X q n (j + 1)) _ _ a2
    rw [e, b2] at b1
    have hl : (W (ko X p j)).length = (W (ko X q j)).length := (Option.some.inj b1).symm
    obtain ⟨c1, c2⟩ := List.append_inj e hl
    rcases Nat.lt_or_ge j i with z | z
    · exact cK_inj n (j + 1) (fun i h1 h2 => hw i (by omega) (by omega)) c2 i (by omega) (by omega)
    · have e2 : i = j := by omega
      subst e2
      exact c1
theorem cK_len {W : Nat → List Nat} {X : List Nat} {p : Nat} : ∀ (n j i : Nat), j ≤ i → i < j + n → (W (ko X p i)).length ≤ (cK W X p n j).length
  | 0, j, i, h1, h2 => by omega
  | n + 1, j, i, h1, h2 => by
    show _ ≤ (W (ko X p j) ++ cK W X p n (j + 1)).length
    rw [List.length_append]
    rcases Nat.lt_or_ge j i with z | z
    · have := cK_len (W := W) (X := X) (p := p) n (j + 1) i (by omega) (by omega)
      omega
    · have e2 : i = j := by omega
      subst e2
      omega
theorem exF_TW {X : List Nat} (hX : BX X) {g : Nat → List Nat} (hg : ∀ x, x < 8 → TW (g x)) {p : Nat} (hp : p < X.length) : TW (exF g (sub' X p)) := by
  have st := sub_TW hX hp
  rw [exF_used g st.2]
  exact TW.used (fun z hz => by
    obtain ⟨x, hx, rfl⟩ := List.mem_map.mp hz
    exact hg x (List.mem_range.mp hx)) (by rw [List.length_map, List.length_range]; omega) st
theorem exF_heads {X : List Nat} (hX : BX X) {g : Nat → List Nat} (hg : ∀ x, x < 8 → TW (g x)) {a b : Nat} (ha : a < X.length) (hb : b < X.length) (h1 : 10 ≤ gl X a) (h2 : 10 ≤ gl X b) (h : exF g (sub' X a) = exF g (sub' X b)) : gl X a = gl X b ∧ ∀ j, j < ga X a → exF g (sub' X (ko X a j)) = exF g (sub' X (ko X b j)) := by
  rw [exF_hd hX g ha h1, exF_hd hX g hb h2] at h
  obtain ⟨e1, e2⟩ := List.cons.inj h
  have eg := ga_eq e1
  rw [← eg] at e2
  refine ⟨e1, fun j hj => ?_⟩
  exact cK_inj (W := fun q => exF g (sub' X q)) _ 0 (fun i _ hi => ⟨(exF_TW hX hg (ko_mono hX ha (j := i) (by omega)).2.2.2.2).1, (exF_TW hX hg (ko_mono hX hb (j := i) (by omega)).2.2.2.2).1⟩) e2 j (Nat.zero_le _) (by omega)
theorem exF_parts {X : List Nat} (hX : BX X) {g : Nat → List Nat} {a b : Nat} (ha : a < X.length) (hb : b < X.length) (h1 : 10 ≤ gl X a) (e : gl X a = gl X b) (h : ∀ j, j < ga X a → exF g (sub' X (ko X a j)) = exF g (sub' X (ko X b j))) : exF g (sub' X a) = exF g (sub' X b) := by
  rw [exF_hd hX g ha h1, exF_hd hX g hb (by omega), ← e, ← ga_eq e]
  congr 1
  exact cK_two (W := fun q => exF g (sub' X q)) _ 0 (fun i _ hi => h i (by omega))
theorem exF_mem {g : Nat → List Nat} : ∀ {xs : List Nat} {y : Nat}, y ∈ xs → y < 10 → (g y).length ≤ (exF g xs).length
  | [], y, h, _ => by cases h
  | x :: r, y, h, hy => by
    rw [exF_cons, List.length_append]
    rcases List.mem_cons.mp h with z | z
    · subst z
      have : exN g y = g y := if_pos hy
      rw [this]
      omega
    · have := exF_mem (g := g) z hy
      omega
theorem wRow_all {P : Nat → Prop} {sm : SM} (hc : ∀ k t, k < 8 → P k → sm.getD k none = some t → ∀ y, y < 10 → y ∈ t → P y) {s : Nat} (hs : ∀ y, y < 10 → bt s y → P y) : ∀ k, k ≤ 8 → ∀ y, y < 10 → bt (wRow sm s k) y → P y
  | 0, _, y, hy, h => hs y hy h
  | k + 1, hk, y, hy, h => by
    have ih := wRow_all hc hs k (by omega)
    unfold wRow wStep at h
    split at h
    · rename_i hb
      cases e : sm.getD k none with
      | none =>
        rw [e] at h
        exact ih y hy h
      | some t =>
        rw [e] at h
        rcases (bt_or _ _ _).mp h with z | z
        · exact ih y hy z
        · exact hc k t (by omega) (ih k (by omega) hb) e y hy ((namesN_mem hy t).mp z)
    · exact ih y hy h
theorem wAll_all {P : Nat → Prop} {sm : SM} (hc : ∀ k t, k < 8 → P k → sm.getD k none = some t → ∀ y, y < 10 → y ∈ t → P y) {s : Nat} (hs : ∀ y, y < 10 → bt s y → P y) : ∀ n y, y < 10 → bt (wAll sm s n) y → P y
  | 0, y, hy, h => hs y hy h
  | n + 1, y, hy, h => wRow_all hc (wAll_all hc hs n) 8 (Nat.le_refl _) y hy h
/-- what stands within a term is shorter than it -/
theorem wi_size {X : List Nat} (hX : BX X) {S : SS} {g : Nat → List Nat} (H : Sat X S g) {x b : Nat} (hx : x < 8) (hb : b < X.length) (hh : 10 ≤ gl X b) (h : isWi (smO X S) x (sub' X b) = true) : (g x).length < (exF g (sub' X b)).length := by
  have h2 : bt (wAll (smO X S) (namesN (sub' X b)) 8) x := by
    have z : wAll (smO X S) (namesN (sub' X b)) 8 >>> x % 2 = 1 := of_decide_eq_true h
    exact z
  refine wAll_all (P := fun y => (g y).length < (exF g (sub' X b)).length) (fun k t hk hP ht y hy hm => ?_) (fun y hy hm => ?_) 8 x (by omega) h2
  · rw [smO_get X S hk] at ht
    cases e : S k with
    | none => rw [e] at ht; cases ht
    | some q =>
      rw [e] at ht
      have e2 : sub' X q = t := Option.some.inj ht
      have e3 := H k q e
      rw [e2] at e3
      have := exF_mem (g := g) hm hy
      rw [← e3] at this
      exact Nat.lt_of_le_of_lt this hP
  · have hm2 := (namesN_mem hy (sub' X b)).mp hm
    rw [sub_cons hX hb] at hm2 ⊢
    rcases List.mem_cons.mp hm2 with z | z
    · omega
    · have := exF_mem (g := g) z hy
      rw [exF_cons, List.length_append]
      have e : exN g (gl X b) = [gl X b] := if_neg (by omega)
      rw [e]
      show _ < 1 + _
      omega
theorem kdL_mm {X : List Nat} {a b : Nat} : ∀ {k j : Nat} {z : Nat × Nat}, z ∈ kdL X a b k j → ∃ i, j ≤ i ∧ i < j + k ∧ z = (ko X a i, ko X b i)
  | 0, j, z, h => by cases h
  | k + 1, j, z, h => by
    rcases List.mem_cons.mp h with q | q
    · exact ⟨j, Nat.le_refl _, by omega, q⟩
    · obtain ⟨i, h1, h2, h3⟩ := kdL_mm q
      exact ⟨i, by omega, by omega, h3⟩
theorem sat_up {X : List Nat} {S : SS} {g : Nat → List Nat} (H : Sat X S g) {x t : Nat} (h : g x = exF g (sub' X t)) : Sat X (upS S x t) g := fun y r hy => by
  unfold upS at hy
  split at hy
  · rename_i ey
    cases hy
    rw [ey]
    exact h
  · exact H y r hy
theorem sat_dn {X : List Nat} {S : SS} {g : Nat → List Nat} {x t : Nat} (hn : S x = none) (H : Sat X (upS S x t) g) : Sat X S g ∧ g x = exF g (sub' X t) :=
  ⟨fun y r hy => H y r (by
    unfold upS
    rw [if_neg (fun z => by rw [z, hn] at hy; cases hy)]
    exact hy), H x t (by unfold upS; rw [if_pos rfl])⟩
/-- a step keeps what makes the pairs alike -/
theorem step_sat {X : List Nat} (hX : BX X) {S : SS} (hS : S1 X S) {g : Nat → List Nat} (hg : ∀ x, x < 8 → TW (g x)) (H : Sat X S g) {p q : Nat} (hp : p < X.length) (hq : q < X.length) (h : exF g (sub' X p) = exF g (sub' X q)) :
    (stepM X S p q).2.1 = 0 ∧ Sat X (stepM X S p q).1 g ∧ ∀ z ∈ (stepM X S p q).2.2, exF g (sub' X z.1) = exF g (sub' X z.2) := by
  obtain ⟨-, -, a3⟩ := dp_ok hX hS hp
  obtain ⟨-, -, b3⟩ := dp_ok hX hS hq
  have e : exF g (sub' X (dp X S p)) = exF g (sub' X (dp X S q)) := (sat_dpF hX hS H 9 p hp).trans (h.trans (sat_dpF hX hS H 9 q hq).symm)
  unfold stepM
  generalize dp X S p = a at a3 e ⊢
  generalize dp X S q = b at b3 e ⊢
  by_cases ca : gl X a < 10
  · have ea := exF_nm hX g a3 ca
    rw [if_pos ca]
    by_cases cb : gl X b < 10
    · have eb := exF_nm hX g b3 cb
      rw [if_pos cb]
      by_cases c1 : gl X b < gl X a
      · rw [if_pos c1]
        exact ⟨rfl, sat_up H (by rw [← ea, e]), fun z hz => by cases hz⟩
      · rw [if_neg c1]
        by_cases c2 : gl X a < gl X b
        · rw [if_pos c2]
          exact ⟨rfl, sat_up H (by rw [← eb, e]), fun z hz => by cases hz⟩
        · rw [if_neg c2]
          exact ⟨rfl, H, fun z hz => by cases hz⟩
    · rw [if_neg cb]
      have hw : ¬ isWi (smO X S) (gl X a) (sub' X b) = true := fun w => by
        have := wi_size hX H (gl_8 hX a3 ca) b3 (by omega) w
        rw [← e, ea] at this
        omega
      rw [if_neg hw]
      exact ⟨rfl, sat_up H (by rw [← ea, e]), fun z hz => by cases hz⟩
  · rw [if_neg ca]
    by_cases cb : gl X b < 10
    · have eb := exF_nm hX g b3 cb
      rw [if_pos cb]
      have hw : ¬ isWi (smO X S) (gl X b) (sub' X a) = true := fun w => by
        have := wi_size hX H (gl_8 hX b3 cb) a3 (by omega) w
        rw [e, eb] at this
        omega
      rw [if_neg hw]
      exact ⟨rfl, sat_up H (by rw [← eb, e]), fun z hz => by cases hz⟩
    · rw [if_neg cb]
      obtain ⟨g1, g2⟩ := exF_heads hX hg a3 b3 (by omega) (by omega) e
      rw [if_pos g1]
      refine ⟨rfl, H, fun z hz => ?_⟩
      obtain ⟨i, h1, h2, rfl⟩ := kdL_mm hz
      exact g2 i (by omega)
/-- what fits after a step made the pair alike -/
theorem step_sol {X : List Nat} (hX : BX X) {S : SS} (hS : S1 X S) {g : Nat → List Nat} {p q : Nat} (hp : p < X.length) (hq : q < X.length) (h0 : (stepM X S p q).2.1 = 0) (H : Sat X (stepM X S p q).1 g) (hk : ∀ z ∈ (stepM X S p q).2.2, exF g (sub' X z.1) = exF g (sub' X z.2)) :
    Sat X S g ∧ exF g (sub' X p) = exF g (sub' X q) := by
  obtain ⟨-, a2, a3⟩ := dp_ok hX hS hp
  obtain ⟨-, b2, b3⟩ := dp_ok hX hS hq
  have fin : Sat X S g → exF g (sub' X (dp X S p)) = exF g (sub' X (dp X S q)) → Sat X S g ∧ exF g (sub' X p) = exF g (sub' X q) := fun H e =>
    ⟨H, (sat_dpF hX hS H 9 p hp).symm.trans (e.trans (sat_dpF hX hS H 9 q hq))⟩
  unfold stepM at h0 H hk
  generalize dp X S p = a at a2 a3 fin h0 H hk
  generalize dp X S q = b at b2 b3 fin h0 H hk
  by_cases ca : gl X a < 10
  · have ea := exF_nm hX g a3 ca
    rw [if_pos ca] at h0 H hk
    by_cases cb : gl X b < 10
    · have eb := exF_nm hX g b3 cb
      rw [if_pos cb] at h0 H hk
      by_cases c1 : gl X b < gl X a
      · rw [if_pos c1] at H
        obtain ⟨H1, H2⟩ := sat_dn (a2 ca) H
        exact fin H1 (by rw [ea, H2])
      · rw [if_neg c1] at H
        by_cases c2 : gl X a < gl X b
        · rw [if_pos c2] at H
          obtain ⟨H1, H2⟩ := sat_dn (b2 cb) H
          exact fin H1 (by rw [eb, H2])
        · rw [if_neg c2] at H
          have e : gl X a = gl X b := by omega
          exact fin H (by rw [ea, eb, e])
    · rw [if_neg cb] at h0 H hk
      by_cases w : isWi (smO X S) (gl X a) (sub' X b) = true
      · rw [if_pos w] at h0
        cases h0
      · rw [if_neg w] at H
        obtain ⟨H1, H2⟩ := sat_dn (a2 ca) H
        exact fin H1 (by rw [ea, H2])
  · rw [if_neg ca] at h0 H hk
    by_cases cb : gl X b < 10
    · have eb := exF_nm hX g b3 cb
      rw [if_pos cb] at h0 H hk
      by_cases w : isWi (smO X S) (gl X b) (sub' X a) = true
      · rw [if_pos w] at h0
        cases h0
      · rw [if_neg w] at H
        obtain ⟨H1, H2⟩ := sat_dn (b2 cb) H
        exact fin H1 (by rw [eb, H2])
    · rw [if_neg cb] at h0 H hk
      by_cases e : gl X a = gl X b
      · rw [if_pos e] at H hk
        refine fin H (exF_parts hX a3 b3 (by omega) e (fun j hj => ?_))
        have hm : (ko X a j, ko X b j) ∈ kdL X a b (ga X a) 0 := by
          have := kdL_get X a b (ga X a) 0 j hj
          rw [Nat.zero_add] at this
          exact List.mem_of_getElem? this
        exact hk _ hm
      · rw [if_neg e] at h0
        cases h0
theorem run_sat {X : List Nat} (hX : BX X) {g : Nat → List Nat} (hg : ∀ x, x < 8 → TW (g x)) : ∀ (n : Nat) (S : SS) (m : Nat) (ps : PL2) (S' : SS) (w m' : Nat), runM X n S m ps = some (S', w, m') → S1 X S → Sat X S g → (∀ z ∈ ps, z.1 < X.length ∧ z.2 < X.length ∧ exF g (sub' X z.1) = exF g (sub' X z.2)) → w = 0 ∧ Sat X S' g := by
  intro n
  induction n with
  | zero =>
    intro S m ps S' w m' h hS H hz
    cases ps with
    | nil =>
      cases h
      exact ⟨rfl, H⟩
    | cons z r => cases h
  | succ n ih =>
    intro S m ps S' w m' h hS H hz
    cases ps with
    | nil =>
      cases h
      exact ⟨rfl, H⟩
    | cons z r =>
      obtain ⟨z1, z2, z3⟩ := hz z List.mem_cons_self
      obtain ⟨s1, s2, -, -⟩ := stepM_ok hX hS z1 z2
      obtain ⟨t1, t2, t3⟩ := step_sat hX hS hg H z1 z2 z3
      rw [runM] at h
      split at h
      · cases h
      · first | rw [if_pos t1] at h | skip
        refine ih _ _ _ _ _ _ h s1 t2 (fun y hy => ?_)
        rcases List.mem_append.mp hy with q | q
        · exact ⟨(s2 y q).1, (s2 y q).2, t3 y q⟩
        · exact hz y (List.mem_cons_of_mem _ q)
theorem run_sol {X : List Nat} (hX : BX X) {g : Nat → List Nat} : ∀ (n : Nat) (S : SS) (m : Nat) (ps : PL2) (S' : SS) (m' : Nat), runM X n S m ps = some (S', 0, m') → S1 X S → Sat X S' g → (∀ z ∈ ps, z.1 < X.length ∧ z.2 < X.length) → Sat X S g ∧ ∀ z ∈ ps, exF g (sub' X z.1) = exF g (sub' X z.2) := by
  intro n
  induction n with
  | zero =>
    intro S m ps S' m' h hS H hz
    cases ps with
    | nil =>
      cases h
      exact ⟨H, fun z hz => by cases hz⟩
    | cons z r => cases h
  | succ n ih =>
    intro S m ps S' m' h hS H hz
    cases ps with
    | nil =>
      cases h
      exact ⟨H, fun z hz => by cases hz⟩
    | cons z r =>
      obtain ⟨z1, z2⟩ := hz z List.mem_cons_self
      obtain ⟨s1, s2, -, -⟩ := stepM_ok hX hS z1 z2
      rw [runM] at h
      split at h
      · cases h
      · by_cases h0 : (stepM X S z.1 z.2).2.1 = 0
        · rw [if_pos h0] at h
          obtain ⟨i1, i2⟩ := ih _ _ _ _ _ h s1 H (fun y hy => (List.mem_append.mp hy).elim (fun q => s2 y q) (fun q => hz y (List.mem_cons_of_mem _ q)))
          obtain ⟨t1, t2⟩ := step_sol hX hS z1 z2 h0 i1 (fun y hy => i2 y (List.mem_append_left _ hy))
          refine ⟨t1, fun y hy => ?_⟩
          rcases List.mem_cons.mp hy with q | q
          · rw [q]
            exact t2
          · exact i2 y (List.mem_append_right _ q)
        · rw [if_neg h0] at h
          exact absurd (Prod.mk.inj (Prod.mk.inj (Option.some.inj h)).2).1 h0
/-- a function of names that makes two terms alike -/
def Uni (one other : List Nat) (g : Nat → List Nat) : Prop := (∀ x, x < 8 → TW (g x)) ∧ exF g one = exF g other
theorem ExP.sat {X : List Nat} {S : SS} {E : Nat → List Nat} (h : ExP X S E) : Sat X S E := fun x q e => by
  have := h x
  rw [e] at this
  exact this
theorem PEs.uni {one other : List Nat} (t1 : TW one ∧ one.length ≤ 16) (t2 : TW other ∧ other.length ≤ 16) {E : Nat → List Nat} (h : PEs one other E) : Uni one other E := by
  obtain ⟨bY, e1, e2⟩ := BY_of t1 t2
  obtain ⟨G, S, -, -, hr, hS, hA, -, hE⟩ := h
  refine ⟨ExP.tw bY.1 hS hA hE, ?_⟩
  have n1 := bY.2.2.2.1
  have this : exF E (sub' (one ++ other) 0) = exF E (sub' (one ++ other) one.length) := (run_sol bY.1 _ _ _ _ _ _ hr (fun x q z => by cases z) hE.sat (fun z hz => by
    rw [List.mem_singleton.mp hz]
    exact ⟨by show 0 < _; omega, n1⟩)).2 _ (List.mem_singleton.mpr rfl)
  rw [e1, e2] at this
  exact this
theorem PEc.uni {one other : List Nat} (t1 : TW one ∧ one.length ≤ 16) (t2 : TW other ∧ other.length ≤ 16) {E : Nat → List Nat} (h : PEc one other E) : Uni one other E := by
  obtain ⟨bY, e1, e2⟩ := BY_of t1 t2
  obtain ⟨k, S, M, A, sk, hE⟩ := h
  refine ⟨ExP.tw bY.1 sk.s1 (SKP.ac bY.1 sk M.1 A) hE, ?_⟩
  have n1 := bY.2.2.2.1
  have := SKP.same bY.1 sk M.1 A hE 0 one.length (by omega) n1 M.1.1
  rw [e1, e2] at this
  exact this
/-- what makes alike comes from what steps tell -/
theorem sat_mgu {X : List Nat} (hX : BX X) {S : SS} (hS : S1 X S) (hA : Ac X S) {E g : Nat → List Nat} (hE : ExP X S E) (H : Sat X S g) : ∀ x, x < 10 → exF g (E x) = g x := by
  obtain ⟨rk, K, -, hR⟩ := Ac.rk hX hS hA
  have key : ∀ n x, rk x < n → x < 10 → exF g (E x) = g x := by
    intro n
    induction n with
    | zero => intro x h; omega
    | succ n ih =>
      intro x hn hx
      have e := hE x
      cases es : S x with
      | none =>
        rw [es] at e
        rw [e]
        show exN g x ++ [] = g x
        rw [List.append_nil]
        exact if_pos hx
      | some q =>
        rw [es] at e
        have e' : E x = exF E (sub' X q) := e
        rw [e', H x q es]
        have inner : ∀ xs : List Nat, (∀ y ∈ xs, y < 10 → exF g (E y) = g y) → exF g (exF E xs) = exF g xs := by
          intro xs
          induction xs with
          | nil => intro _; rfl
          | cons y r ihr =>
            intro hy
            rw [exF_cons, exF_app, exF_cons, ihr (fun z hz => hy z (List.mem_cons_of_mem _ hz))]
            congr 1
            by_cases c : y < 10
            · have a1 : exN E y = E y := if_pos c
              have a2 : exN g y = g y := if_pos c
              rw [a1, a2]
              exact hy y List.mem_cons_self c
            · have a1 : exN E y = [y] := if_neg c
              have a2 : exN g y = [y] := if_neg c
              rw [a1, a2]
              show exN g y ++ [] = _
              rw [a2]
              rfl
        exact inner _ (fun y hy hy10 => ih y (by have := hR x q es y hy hy10; omega) hy10)
  intro x hx
  exact key (rk x + 1) x (Nat.lt_succ_self _) hx
/-- a name that another one stands for at last is not greater -/
theorem ex_least {X : List Nat} (hX : BX X) {S : SS} (hS : S1 X S) {E : Nat → List Nat} (hE : ExP X S E) : ∀ n z y, z < n → y < 10 → E z = [y] → y ≤ z := by
  intro n
  induction n with
  | zero => intro z y h; omega
  | succ n ih =>
    intro z y hn hy he
    have e := hE z
    cases es : S z with
    | none =>
      rw [es] at e
      rw [e] at he
      cases he
      exact Nat.le_refl _
    | some q =>
      rw [es] at e
      have e' : E z = exF E (sub' X q) := e
      obtain ⟨-, q2, q3⟩ := hS z q es
      by_cases c : gl X q < 10
      · rw [exF_nm hX E q2 c] at e'
        have := ih (gl X q) y (by have := q3 c; omega) hy (by rw [← e']; exact he)
        have := q3 c
        omega
      · rw [exF_hd hX E q2 (by omega), he] at e'
        have := (List.cons.inj e').1
        omega
/-- the names that are left stand for nothing -/
theorem ex_left {X : List Nat} (hX : BX X) {S : SS} (hS : S1 X S) (hA : Ac X S) {E : Nat → List Nat} (hE : ExP X S E) : ∀ x y, y ∈ E x → y < 10 → S y = none := by
  obtain ⟨rk, K, -, hR⟩ := Ac.rk hX hS hA
  have key : ∀ n x, rk x < n → ∀ y, y ∈ E x → y < 10 → S y = none := by
    intro n
    induction n with
    | zero => intro x h; omega
    | succ n ih =>
      intro x hn y hm hy
      have e := hE x
      cases es : S x with
      | none =>
        rw [es] at e
        rw [e] at hm
        rw [List.mem_singleton.mp hm]
        exact es
      | some q =>
        rw [es] at e
        have e' : E x = exF E (sub' X q) := e
        rw [e'] at hm
        obtain ⟨z, hz, hm2⟩ := List.mem_flatMap.mp hm
        by_cases c : z < 10
        · have a1 : exN E z = E z := if_pos c
          rw [a1] at hm2
          exact ih z (by have := hR x q es z hz c; omega) y hm2 hy
        · have a1 : exN E z = [z] := if_neg c
          rw [a1] at hm2
          have := List.mem_singleton.mp hm2
          omega
  intro x y hm hy
  exact key (rk x + 1) x (Nat.lt_succ_self _) y hm hy
theorem exF_self {g : Nat → List Nat} : ∀ {xs : List Nat}, (∀ y ∈ xs, y < 10 → g y = [y]) → exF g xs = xs
  | [], _ => rfl
  | x :: r, h => by
    rw [exF_cons, exF_self (fun y hy => h y (List.mem_cons_of_mem _ hy))]
    have e : exN g x = [x] := by
      by_cases c : x < 10
      · have a1 : exN g x = g x := if_pos c
        rw [a1]
        exact h x List.mem_cons_self c
      · exact if_neg c
    rw [e]
    rfl
/-- two most general ones, both by least names, are the same -/
theorem mgu_same {X : List Nat} (hX : BX X) {S S' : SS} (hS : S1 X S) (hS' : S1 X S') (hA : Ac X S) (hA' : Ac X S') {E E' : Nat → List Nat} (hE : ExP X S E) (hE' : ExP X S' E') (H : Sat X S E') (H' : Sat X S' E) : ∀ x, x < 8 → E x = E' x := by
  intro x hx
  have m1 := sat_mgu hX hS hA hE H
  have m2 := sat_mgu hX hS' hA' hE' H'
  have tw := ExP.tw hX hS hA hE
  have tw' := ExP.tw hX hS' hA' hE'
  rw [← m1 x (by omega)]
  refine (exF_self (fun y hy hy10 => ?_)).symm
  have ey : E y = [y] := by
    have := hE y
    rw [ex_left hX hS hA hE x y hy hy10] at this
    exact this
  have hy8 : y < 8 := by rcases (tw x hx).2 y hy with q | q <;> omega
  have e2 := m2 y hy10
  rw [ey] at e2
  have hl := exF_len tw (xs := E' y) (tw' y hy8).2
  rw [e2] at hl
  have hp := (tw' y hy8).pos
  obtain ⟨z, hz⟩ : ∃ z, E' y = [z] := by
    cases ee : E' y with
    | nil => rw [ee] at hp; simp at hp
    | cons z r =>
      rw [ee] at hl
      have : r = [] := List.length_eq_zero_iff.mp (by have h3 : r.length + 1 ≤ 1 := hl; omega)
      exact ⟨z, by rw [this]⟩
  rw [hz] at e2
  have e3 : exN E z = [y] := by
    have : exN E z ++ [] = [y] := e2
    rwa [List.append_nil] at this
  by_cases c : z < 10
  · have a1 : exN E z = E z := if_pos c
    rw [a1] at e3
    have l1 := ex_least hX hS hE (z + 1) z y (Nat.lt_succ_self _) hy10 e3
    have l2 := ex_least hX hS' hE' (y + 1) y z (Nat.lt_succ_self _) c hz
    rw [hz, show z = y by omega]
  · have a1 : exN E z = [z] := if_neg c
    rw [a1] at e3
    rw [hz]
    exact e3
theorem fsF_ex {p : Nat → Bool} : ∀ (n k : Nat), (∃ i, i < n ∧ p (k + i) = true) → ∃ j, fsF p n k = some j ∧ p j = true ∧ j < k + n
  | 0, _, ⟨i, h, _⟩ => absurd h (Nat.not_lt_zero _)
  | n + 1, k, ⟨i, h, hp⟩ => by
    unfold fsF
    by_cases c : p k = true
    · rw [if_pos c]
      exact ⟨k, rfl, c, by omega⟩
    · rw [if_neg c]
      have hi : i ≠ 0 := fun z => c (by rw [z] at hp; exact hp)
      obtain ⟨j, j1, j2, j3⟩ := fsF_ex n (k + 1) ⟨i - 1, by omega, by rw [show k + 1 + (i - 1) = k + i by omega]; exact hp⟩
      exact ⟨j, j1, j2, by omega⟩
/-- a class named by its first place -/
noncomputable def clsF (R : Nat → Nat → Prop) (n p : Nat) : Nat := by
  classical
  exact (fsF (fun q => decide (R p q)) n 0).getD 0
theorem clsF_iff {R : Nat → Nat → Prop} (rf : ∀ a, R a a) (sy : ∀ a b, R a b → R b a) (tr : ∀ a b c, R a b → R b c → R a c) {n p q : Nat} (hp : p < n) (hq : q < n) : clsF R n p = clsF R n q ↔ R p q := by
  classical
  have ex : ∀ u, u < n → R u (clsF R n u) := fun u hu => by
    obtain ⟨j, j1, j2, -⟩ := fsF_ex (p := fun q => decide (R u q)) n 0 ⟨u, hu, by rw [Nat.zero_add]; exact decide_eq_true (rf u)⟩
    have e : clsF R n u = j := by
      show (fsF (fun q => decide (R u q)) n 0).getD 0 = j
      rw [j1]
      rfl
    rw [e]
    exact of_decide_eq_true j2
  constructor
  · intro h
    have a := ex p hp
    rw [h] at a
    exact tr _ _ _ a (sy _ _ (ex q hq))
  · intro h
    have e : R p = R q := funext (fun u => propext ⟨fun z => tr _ _ _ (sy _ _ h) z, fun z => tr _ _ _ h z⟩)
    unfold clsF
    rw [e]
/-- the least classes, where there are any -/
theorem MnK.ex {X : List Nat} {n1 : Nat} (h0 : 0 < X.length) (hn : n1 < X.length) (hX : BX X) {k0 : Nat → Nat} (G0 : GdK X n1 k0) : ∃ k, MnK X n1 k := by
  have rf : ∀ a, ∀ k', GdK X n1 k' → k' a = k' a := fun a k' _ => rfl
  have sy : ∀ a b, (∀ k', GdK X n1 k' → k' a = k' b) → ∀ k', GdK X n1 k' → k' b = k' a := fun a b h k' g => (h k' g).symm
  have tr : ∀ a b c, (∀ k', GdK X n1 k' → k' a = k' b) → (∀ k', GdK X n1 k' → k' b = k' c) → ∀ k', GdK X n1 k' → k' a = k' c := fun a b c h1 h2 k' g => (h1 k' g).trans (h2 k' g)
  have key : ∀ {p q : Nat}, p < X.length → q < X.length → (clsF (fun a b => ∀ k', GdK X n1 k' → k' a = k' b) X.length p = clsF (fun a b => ∀ k', GdK X n1 k' → k' a = k' b) X.length q ↔ ∀ k', GdK X n1 k' → k' p = k' q) := fun hp hq => clsF_iff rf sy tr hp hq
  refine ⟨clsF (fun a b => ∀ k', GdK X n1 k' → k' a = k' b) X.length, ⟨(key h0 hn).mpr (fun k' g => g.1), fun p q hp hq e => (key hp hq).mpr (fun k' g => g.2.1 p q hp hq e), fun p q hp hq e a1 a2 => ?_⟩, fun k' g p q hp hq e => (key hp hq).mp e k' g⟩
  have e2 := (key hp hq).mp e
  obtain ⟨g1, -⟩ := G0.2.2 p q hp hq (e2 k0 G0) a1 a2
  refine ⟨g1, fun j hj => (key (ko_mono hX hp hj).2.2.2.2 (ko_mono hX hq (by rw [← ga_eq g1]; exact hj)).2.2.2.2).mpr (fun k' g => (g.2.2 p q hp hq (e2 k' g) a1 a2).2 j hj)⟩
/-- what makes alike gives classes -/
theorem Uni.cls {one other : List Nat} (t1 : TW one ∧ one.length ≤ 16) (t2 : TW other ∧ other.length ≤ 16) {g : Nat → List Nat} (h : Uni one other g) : ∃ k, (∀ p q, p < (one ++ other).length → q < (one ++ other).length → k p = k q → exF g (sub' (one ++ other) p) = exF g (sub' (one ++ other) q)) ∧ GdK (one ++ other) one.length k ∧ AcK (one ++ other) k := by
  obtain ⟨bY, e1, e2⟩ := BY_of t1 t2
  obtain ⟨hg, hu⟩ := h
  have hX := bY.1
  have n1 : one.length < (one ++ other).length := bY.2.2.2.1
  have key : ∀ {p q : Nat}, p < (one ++ other).length → q < (one ++ other).length → (clsF (fun a b => exF g (sub' (one ++ other) a) = exF g (sub' (one ++ other) b)) (one ++ other).length p = clsF (fun a b => exF g (sub' (one ++ other) a) = exF g (sub' (one ++ other) b)) (one ++ other).length q ↔ exF g (sub' (one ++ other) p) = exF g (sub' (one ++ other) q)) := fun hp hq => clsF_iff (R := fun a b => exF g (sub' (one ++ other) a) = exF g (sub' (one ++ other) b)) (fun _ => rfl) (fun _ _ h => h.symm) (fun _ _ _ h1 h2 => h1.trans h2) hp hq
  refine ⟨_, fun p q hp hq e => (key hp hq).mp e, ⟨(key (by omega) n1).mpr (by rw [e1, e2]; exact hu), fun p q hp hq e => (key hp hq).mpr (by rw [e]), fun p q hp hq e a1 a2 => ?_⟩, fun p => (exF g (sub' (one ++ other) p)).length, fun p q hp hq e => congrArg List.length ((key hp hq).mp e), fun p hp j hj => ?_⟩
  · obtain ⟨g1, g2⟩ := exF_heads hX hg hp hq a1 a2 ((key hp hq).mp e)
    exact ⟨g1, fun j hj => (key (ko_mono hX hp hj).2.2.2.2 (ko_mono hX hq (by rw [← ga_eq g1]; exact hj)).2.2.2.2).mpr (g2 j hj)⟩
  · have h10 : 10 ≤ gl (one ++ other) p := by
      rcases Nat.lt_or_ge (gl (one ++ other) p) 10 with z | z
      · rw [ga_name z] at hj
        exact absurd hj (Nat.not_lt_zero _)
      · exact z
    have := cK_len (W := fun q => exF g (sub' (one ++ other) q)) (X := one ++ other) (p := p) (ga (one ++ other) p) 0 j (Nat.zero_le _) (by omega)
    show (exF g (sub' (one ++ other) (ko (one ++ other) p j))).length < (exF g (sub' (one ++ other) p)).length
    rw [exF_hd hX g hp h10, List.length_cons]
    exact Nat.lt_succ_of_le this
/-- steps and classes tell the same -/
theorem PEs.same {one other : List Nat} (t1 : TW one ∧ one.length ≤ 16) (t2 : TW other ∧ other.length ≤ 16) {E E' : Nat → List Nat} (h : PEs one other E) (h' : PEc one other E') : ∀ x, x < 8 → E x = E' x := by
  have u := h.uni t1 t2
  have u' := h'.uni t1 t2
  obtain ⟨bY, e1, e2⟩ := BY_of t1 t2
  have n1 : one.length < (one ++ other).length := bY.2.2.2.1
  obtain ⟨kE, c1, c2, c3⟩ := u.cls t1 t2
  obtain ⟨G, S, -, -, hr, hS, hA, -, hE⟩ := h
  obtain ⟨k, S', M, A, sk, hE'⟩ := h'
  refine mgu_same bY.1 hS sk.s1 hA (SKP.ac bY.1 sk M.1 A) hE hE' ?_ ?_
  · exact (run_sat bY.1 u'.1 _ _ _ _ _ _ _ hr (fun x q z => by cases z) (fun x q z => by cases z) (fun z hz => by
      rw [List.mem_singleton.mp hz]
      exact ⟨by show 0 < _; omega, n1, by show exF E' (sub' _ 0) = exF E' (sub' _ one.length); rw [e1, e2]; exact u'.2⟩)).2
  · intro x q e
    obtain ⟨x8, q2, p, p1, p2, p3, -⟩ := sk.1 x q e
    have := c1 p q p1 q2 (M.2 kE c2 p q p1 q2 p3)
    rw [exF_nm bY.1 E p1 (by omega), p2] at this
    exact this
end Uf30uni
section Uf31snd
/-! what two terms have in common, and a plain term, are matched onto them (written by hand) -/
/-- letters so far matched: what is told, where it stands -/
def Prg (onto xs : List Nat) (b : Nat) (t : List (Option (List Nat))) : Prop := ∀ ys, matchF onto (xs ++ ys) 0 (List.replicate 8 none) = matchF onto ys b t
theorem Prg.nil (onto : List Nat) : Prg onto [] 0 (List.replicate 8 none) := fun _ => rfl
theorem Prg.end {onto xs : List Nat} {b : Nat} {t : List (Option (List Nat))} (h : Prg onto xs b t) : (matchL xs onto).isSome = true := by
  have := h []
  rw [List.append_nil] at this
  unfold matchL
  rw [this]
  rfl
theorem Prg.add {onto xs : List Nat} {b b' x : Nat} {t t' : List (Option (List Nat))} (h : Prg onto xs b t) (h2 : ∀ ys, matchF onto (x :: ys) b t = matchF onto ys b' t') : Prg onto (xs ++ [x]) b' t' := fun ys => by
  rw [List.append_assoc]
  exact (h (x :: ys)).trans (h2 ys)
/-- what is told is what the pairs are on one side -/
def TIp (f : List Nat × List Nat → List Nat) (t : List (Option (List Nat))) (ps : List (List Nat × List Nat)) : Prop := t.length = 8 ∧ ∀ j, j < 8 → t.getD j none = (ps[j]?).map f
theorem TIp.nil (f : List Nat × List Nat → List Nat) : TIp f (List.replicate 8 none) [] := ⟨List.length_replicate, fun j hj => by
  have : ∀ j, j < 8 → (List.replicate 8 (none : Option (List Nat))).getD j none = none := by decide
  rw [this j hj]
  rfl⟩
theorem TIp.add {f : List Nat × List Nat → List Nat} {t : List (Option (List Nat))} {ps : List (List Nat × List Nat)} (h : TIp f t ps) (q : List Nat × List Nat) (hi : idxP q ps < 8) : (t.getD (idxP q ps) none = none ∨ t.getD (idxP q ps) none = some (f q)) ∧ TIp f (t.set (idxP q ps) (some (f q))) (if idxP q ps < ps.length then ps else ps ++ [q]) := by
  have hg : ∀ j, (t.set (idxP q ps) (some (f q))).getD j none = if idxP q ps = j then some (f q) else t.getD j none := fun j => by
    rw [List.getD_eq_getElem?_getD, List.getD_eq_getElem?_getD, List.getElem?_set]
    by_cases e : idxP q ps = j
    · rw [if_pos e, if_pos e, if_pos (by rw [h.1]; omega)]
      rfl
    · rw [if_neg e, if_neg e]
  by_cases c : idxP q ps < ps.length
  · have e := idxP_eq q ps c
    rw [if_pos c]
    refine ⟨Or.inr (by rw [h.2 _ hi, e]; rfl), by rw [List.length_set]; exact h.1, fun j hj => ?_⟩
    rw [hg]
    by_cases ej : idxP q ps = j
    · rw [if_pos ej, ← ej, e]
      rfl
    · rw [if_neg ej]
      exact h.2 j hj
  · have le := idxP_le q ps
    have e : idxP q ps = ps.length := by omega
    rw [if_neg c]
    refine ⟨Or.inl (by rw [h.2 _ hi, List.getElem?_eq_none (by omega)]; rfl), by rw [List.length_set]; exact h.1, fun j hj => ?_⟩
    rw [hg]
    by_cases ej : idxP q ps = j
    · rw [if_pos ej, ← ej, e, List.getElem?_concat_length]
      rfl
    · rw [if_neg ej, h.2 j hj]
      rcases Nat.lt_or_ge j ps.length with z | z
      · rw [List.getElem?_append_left z]
      · rw [List.getElem?_eq_none (by omega), List.getElem?_eq_none (by rw [List.length_append, List.length_singleton]; omega)]
end Uf31snd
section Uf32q7
/-! isSound() is so (printed by wip/q/genQ7.py) -/
/-- the steps stay when the classes go on -/
theorem STP.cl {B Q P : Nat → Nat} {ox : Nat} {kn d r : Int32} {h h' : AH} {F F' : Nat → TC} {X : List Nat} {S : SS} {ps : PL2} {tk en : Int32} (Y : LYO B Q) (C : CLS B Q P ox kn h F d r) (T : STP B Q P h F X S ps tk en) (f : FrU B Q (LCl P Q) h h') (S' : TS B Q h' F') (e : F' 50 = F 50) : STP B Q P h' F' X S ps tk en := by
  obtain ⟨a1, a2, a3, ⟨row, b1, b2, b3⟩, c1, c2, c3, ⟨xs, c4⟩, ys, c5⟩ := T
  obtain ⟨w14, -, e14⟩ := C.2.2.2.2.2.2.1 1 (by decide)
  have e14' : h (P 14) = some (4, [.ref (Q 66), .ref (Q 67), vI w14]) := e14
  have row0 := C.2.2.2.2.2.2.2
  have kp : ∀ {a k : Nat} {vs : List Value}, h a = some (k, vs) → k ≠ 7 → k ≠ 107 → a ≠ P 14 → h' a = some (k, vs) := fun {a k vs} ea h7 h107 hn => by
    rw [f a (fun i hi => ?_) (fun z => ?_)]
    · exact ea
    · obtain ⟨-, q1, xs, q2, -⟩ := a1 i hi
      exact ⟨k_ne ea q1 h7, k_ne ea q2 h107⟩
    · simp only [LCl, List.mem_cons, List.not_mem_nil, or_false] at z
      have kq : ∀ j, 60 ≤ j → j < 70 → a ≠ Q j := fun j h1 h2 => by
        obtain ⟨ws, e2, -⟩ := row0 j h1 h2
        exact k_ne ea e2 h107
      rcases z with z | z | z | z | z | z
      · exact hn z
      · exact kq 61 (by decide) (by decide) z
      · exact kq 62 (by decide) (by decide) z
      · exact kq 63 (by decide) (by decide) z
      · exact kq 66 (by decide) (by decide) z
      · exact kq 67 (by decide) (by decide) z
  have kr : ∀ {j : Nat} {vs : List Value}, h (Q j) = some (107, vs) → 60 ≤ j → j < 70 → j ≠ 61 → j ≠ 62 → j ≠ 63 → j ≠ 66 → j ≠ 67 → h' (Q j) = some (107, vs) := fun {j vs} ea h1 h2 n1 n2 n3 n4 n5 => by
    rw [f (Q j) (fun i hi => ?_) (fun z => ?_)]
    · exact ea
    · obtain ⟨-, q1, xs, q2, -⟩ := a1 i hi
      exact ⟨k_ne ea q1 (by decide), fun z => by have := Y.2 _ _ (by omega) (by omega) z; omega⟩
    · simp only [LCl, List.mem_cons, List.not_mem_nil, or_false] at z
      rcases z with z | z | z | z | z | z
      · exact k_ne ea e14' (by decide) z
      · exact n1 (Y.2 _ _ h2 (by decide) z)
      · exact n2 (Y.2 _ _ h2 (by decide) z)
      · exact n3 (Y.2 _ _ h2 (by decide) z)
      · exact n4 (Y.2 _ _ h2 (by decide) z)
      · exact n5 (Y.2 _ _ h2 (by decide) z)
  have hne : P 13 ≠ P 14 := SCR.pne Y C.2.2.2 (i := 0) (j := 1) (by decide) (by decide) (by decide)
  refine ⟨S', by rw [e]; exact a2, kp a3 (by decide) (by decide) (k_ne a3 e14' (by decide)), ⟨row, kr b1 (by decide) (by decide) (by decide) (by decide) (by decide) (by decide) (by decide), b2, b3⟩, c1, c2, kp c3 (by decide) (by decide) hne, ⟨xs, kr c4.1 (by decide) (by decide) (by decide) (by decide) (by decide) (by decide) (by decide), c4.2⟩, ys, kr c5.1 (by decide) (by decide) (by decide) (by decide) (by decide) (by decide) (by decide), c5.2⟩
section Q32
variable {la : Launch} {D : va_G} {cA : Nat → ClassId} {B0 pa : Nat} {B Q P : Nat → Nat} {ox : Nat} {kn d r : Int32} {F : Nat → TC}
end Q32
end Uf32q7
section Ug01codeL
/-! the code of the law (printed by wip/p40/genL1.py) -/
def DL_name : List (Nat × Instr × Nat) := [(0, .aload_n 3, 1), (1, .aload_n 0, 1), (2, .iload_n 1, 1), (3, .iload_n 2, 1), (4, .invokevirtual 7, 3), (7, .i2l, 1), (8, .putfield 13, 3), (11, .goto 11, 3), (14, .astore 4, 2), (16, .iconst 1, 1), (17, .ireturn, 1), (18, .astore 4, 2), (20, .iconst 2, 1), (21, .ireturn, 1), (22, .iconst 0, 1), (23, .ireturn, 1)]
set_option maxRecDepth 100000 in
theorem DL_name_ok : ∀ q ∈ DL_name, decode cL_name q.1 = .ok q.2 := ck_ok (by decide +kernel)
def DL_head : List (Nat × Instr × Nat) := [(0, .aload 6, 2), (2, .aload_n 0, 1), (3, .iload_n 1, 1), (4, .iload_n 2, 1), (5, .iload_n 3, 1), (6, .iload 4, 2), (8, .iload 5, 2), (10, .invokevirtual 23, 3), (13, .i2l, 1), (14, .putfield 13, 3), (17, .goto 11, 3), (20, .astore 7, 2), (22, .iconst 1, 1), (23, .ireturn, 1), (24, .astore 7, 2), (26, .iconst 2, 1), (27, .ireturn, 1), (28, .iconst 0, 1), (29, .ireturn, 1)]
set_option maxRecDepth 100000 in
theorem DL_head_ok : ∀ q ∈ DL_head, decode cL_head q.1 = .ok q.2 := ck_ok (by decide +kernel)
def DL_copy : List (Nat × Instr × Nat) := [(0, .aload_n 3, 1), (1, .aload_n 0, 1), (2, .iload_n 1, 1), (3, .iload_n 2, 1), (4, .invokevirtual 27, 3), (7, .i2l, 1), (8, .putfield 13, 3), (11, .goto 7, 3), (14, .astore 4, 2), (16, .iconst 1, 1), (17, .ireturn, 1), (18, .iconst 0, 1), (19, .ireturn, 1)]
set_option maxRecDepth 100000 in
theorem DL_copy_ok : ∀ q ∈ DL_copy, decode cL_copy q.1 = .ok q.2 := ck_ok (by decide +kernel)
def DL_swap : List (Nat × Instr × Nat) := [(0, .aload_n 3, 1), (1, .aload_n 0, 1), (2, .iload_n 1, 1), (3, .iload_n 2, 1), (4, .invokevirtual 30, 3), (7, .i2l, 1), (8, .putfield 13, 3), (11, .goto 7, 3), (14, .astore 4, 2), (16, .iconst 1, 1), (17, .ireturn, 1), (18, .iconst 0, 1), (19, .ireturn, 1)]
set_option maxRecDepth 100000 in
theorem DL_swap_ok : ∀ q ∈ DL_swap, decode cL_swap q.1 = .ok q.2 := ck_ok (by decide +kernel)
def DL_part : List (Nat × Instr × Nat) := [(0, .aload 4, 2), (2, .aload_n 0, 1), (3, .iload_n 1, 1), (4, .iload_n 2, 1), (5, .iload_n 3, 1), (6, .invokevirtual 33, 3), (9, .i2l, 1), (10, .putfield 13, 3), (13, .goto 7, 3), (16, .astore 5, 2), (18, .iconst 1, 1), (19, .ireturn, 1), (20, .iconst 0, 1), (21, .ireturn, 1)]
set_option maxRecDepth 100000 in
theorem DL_part_ok : ∀ q ∈ DL_part, decode cL_part q.1 = .ok q.2 := ck_ok (by decide +kernel)
def DL_graft : List (Nat × Instr × Nat) := [(0, .aload 4, 2), (2, .aload_n 0, 1), (3, .iload_n 1, 1), (4, .iload_n 2, 1), (5, .iload_n 3, 1), (6, .invokevirtual 37, 3), (9, .i2l, 1), (10, .putfield 13, 3), (13, .goto 7, 3), (16, .astore 5, 2), (18, .iconst 1, 1), (19, .ireturn, 1), (20, .iconst 0, 1), (21, .ireturn, 1)]
set_option maxRecDepth 100000 in
theorem DL_graft_ok : ∀ q ∈ DL_graft, decode cL_graft q.1 = .ok q.2 := ck_ok (by decide +kernel)
def DL_put : List (Nat × Instr × Nat) := [(0, .aload 4, 2), (2, .aload_n 0, 1), (3, .iload_n 1, 1), (4, .iload_n 2, 1), (5, .iload_n 3, 1), (6, .invokevirtual 40, 3), (9, .i2l, 1), (10, .putfield 13, 3), (13, .goto 11, 3), (16, .astore 5, 2), (18, .iconst 1, 1), (19, .ireturn, 1), (20, .astore 5, 2), (22, .iconst 2, 1), (23, .ireturn, 1), (24, .iconst 0, 1), (25, .ireturn, 1)]
set_option maxRecDepth 100000 in
theorem DL_put_ok : ∀ q ∈ DL_put, decode cL_put q.1 = .ok q.2 := ck_ok (by decide +kernel)
def DL_shift : List (Nat × Instr × Nat) := [(0, .aload_n 3, 1), (1, .aload_n 0, 1), (2, .iload_n 1, 1), (3, .iload_n 2, 1), (4, .invokevirtual 43, 3), (7, .i2l, 1), (8, .putfield 13, 3), (11, .goto 11, 3), (14, .astore 4, 2), (16, .iconst 1, 1), (17, .ireturn, 1), (18, .astore 4, 2), (20, .iconst 2, 1), (21, .ireturn, 1), (22, .iconst 0, 1), (23, .ireturn, 1)]
set_option maxRecDepth 100000 in
theorem DL_shift_ok : ∀ q ∈ DL_shift, decode cL_shift q.1 = .ok q.2 := ck_ok (by decide +kernel)
def DL_plain : List (Nat × Instr × Nat) := [(0, .aload_n 2, 1), (1, .aload_n 0, 1), (2, .iload_n 1, 1), (3, .invokevirtual 46, 3), (6, .i2l, 1), (7, .putfield 13, 3), (10, .goto 6, 3), (13, .astore_n 3, 1), (14, .iconst 1, 1), (15, .ireturn, 1), (16, .iconst 0, 1), (17, .ireturn, 1)]
set_option maxRecDepth 100000 in
theorem DL_plain_ok : ∀ q ∈ DL_plain, decode cL_plain q.1 = .ok q.2 := ck_ok (by decide +kernel)
def DL_use : List (Nat × Instr × Nat) := [(0, .aload 4, 2), (2, .aload_n 0, 1), (3, .iload_n 1, 1), (4, .iload_n 2, 1), (5, .iload_n 3, 1), (6, .invokevirtual 50, 3), (9, .i2l, 1), (10, .putfield 13, 3), (13, .goto 7, 3), (16, .astore 5, 2), (18, .iconst 1, 1), (19, .ireturn, 1), (20, .iconst 0, 1), (21, .ireturn, 1)]
set_option maxRecDepth 100000 in
theorem DL_use_ok : ∀ q ∈ DL_use, decode cL_use q.1 = .ok q.2 := ck_ok (by decide +kernel)
def DL_common : List (Nat × Instr × Nat) := [(0, .aload 4, 2), (2, .aload_n 0, 1), (3, .iload_n 1, 1), (4, .iload_n 2, 1), (5, .iload_n 3, 1), (6, .invokevirtual 53, 3), (9, .i2l, 1), (10, .putfield 13, 3), (13, .goto 7, 3), (16, .astore 5, 2), (18, .iconst 1, 1), (19, .ireturn, 1), (20, .iconst 0, 1), (21, .ireturn, 1)]
set_option maxRecDepth 100000 in
theorem DL_common_ok : ∀ q ∈ DL_common, decode cL_common q.1 = .ok q.2 := ck_ok (by decide +kernel)
def DL_forget : List (Nat × Instr × Nat) := [(0, .aload_n 2, 1), (1, .aload_n 0, 1), (2, .iload_n 1, 1), (3, .invokevirtual 56, 3), (6, .i2l, 1), (7, .putfield 13, 3), (10, .goto 6, 3), (13, .astore_n 3, 1), (14, .iconst 1, 1), (15, .ireturn, 1), (16, .iconst 0, 1), (17, .ireturn, 1)]
set_option maxRecDepth 100000 in
theorem DL_forget_ok : ∀ q ∈ DL_forget, decode cL_forget q.1 = .ok q.2 := ck_ok (by decide +kernel)
def DL_tell : List (Nat × Instr × Nat) := [(0, .aload 4, 2), (2, .aload_n 0, 1), (3, .iload_n 1, 1), (4, .iload_n 2, 1), (5, .iload_n 3, 1), (6, .invokevirtual 59, 3), (9, .i2l, 1), (10, .putfield 13, 3), (13, .goto 11, 3), (16, .astore 5, 2), (18, .iconst 1, 1), (19, .ireturn, 1), (20, .astore 5, 2), (22, .iconst 2, 1), (23, .ireturn, 1), (24, .iconst 0, 1), (25, .ireturn, 1)]
set_option maxRecDepth 100000 in
theorem DL_tell_ok : ∀ q ∈ DL_tell, decode cL_tell q.1 = .ok q.2 := ck_ok (by decide +kernel)
def DL_take : List (Nat × Instr × Nat) := [(0, .aload_n 3, 1), (1, .aload_n 0, 1), (2, .iload_n 1, 1), (3, .iload_n 2, 1), (4, .invokevirtual 62, 3), (7, .i2l, 1), (8, .putfield 13, 3), (11, .goto 7, 3), (14, .astore 4, 2), (16, .iconst 1, 1), (17, .ireturn, 1), (18, .iconst 0, 1), (19, .ireturn, 1)]
set_option maxRecDepth 100000 in
theorem DL_take_ok : ∀ q ∈ DL_take, decode cL_take q.1 = .ok q.2 := ck_ok (by decide +kernel)
def DL_behind : List (Nat × Instr × Nat) := [(0, .aload 4, 2), (2, .aload_n 0, 1), (3, .iload_n 1, 1), (4, .iload_n 2, 1), (5, .iload_n 3, 1), (6, .invokevirtual 65, 3), (9, .i2l, 1), (10, .putfield 13, 3), (13, .goto 7, 3), (16, .astore 5, 2), (18, .iconst 1, 1), (19, .ireturn, 1), (20, .iconst 0, 1), (21, .ireturn, 1)]
set_option maxRecDepth 100000 in
theorem DL_behind_ok : ∀ q ∈ DL_behind, decode cL_behind q.1 = .ok q.2 := ck_ok (by decide +kernel)
def DL_alike : List (Nat × Instr × Nat) := [(0, .aload 5, 2), (2, .aload_n 0, 1), (3, .iload_n 1, 1), (4, .iload_n 2, 1), (5, .iload_n 3, 1), (6, .iload 4, 2), (8, .invokevirtual 68, 3), (11, .i2l, 1), (12, .putfield 13, 3), (15, .goto 11, 3), (18, .astore 6, 2), (20, .iconst 1, 1), (21, .ireturn, 1), (22, .astore 6, 2), (24, .iconst 2, 1), (25, .ireturn, 1), (26, .iconst 0, 1), (27, .ireturn, 1)]
set_option maxRecDepth 100000 in
theorem DL_alike_ok : ∀ q ∈ DL_alike, decode cL_alike q.1 = .ok q.2 := ck_ok (by decide +kernel)
def DL_match : List (Nat × Instr × Nat) := [(0, .aload 4, 2), (2, .aload_n 0, 1), (3, .iload_n 1, 1), (4, .iload_n 2, 1), (5, .iload_n 3, 1), (6, .invokevirtual 72, 3), (9, .i2l, 1), (10, .putfield 13, 3), (13, .goto 7, 3), (16, .astore 5, 2), (18, .iconst 1, 1), (19, .ireturn, 1), (20, .iconst 0, 1), (21, .ireturn, 1)]
set_option maxRecDepth 100000 in
theorem DL_match_ok : ∀ q ∈ DL_match, decode cL_match q.1 = .ok q.2 := ck_ok (by decide +kernel)
def DL_text : List (Nat × Instr × Nat) := [(0, .aload_n 2, 1), (1, .aload_n 0, 1), (2, .iload_n 1, 1), (3, .invokevirtual 75, 3), (6, .putfield 79, 3), (9, .goto 6, 3), (12, .astore_n 3, 1), (13, .iconst 1, 1), (14, .ireturn, 1), (15, .iconst 0, 1), (16, .ireturn, 1)]
set_option maxRecDepth 100000 in
theorem DL_text_ok : ∀ q ∈ DL_text, decode cL_text q.1 = .ok q.2 := ck_ok (by decide +kernel)
def DL_size : List (Nat × Instr × Nat) := [(0, .aload_n 2, 1), (1, .aload_n 0, 1), (2, .iload_n 1, 1), (3, .invokevirtual 83, 3), (6, .i2l, 1), (7, .putfield 13, 3), (10, .goto 6, 3), (13, .astore_n 3, 1), (14, .iconst 1, 1), (15, .ireturn, 1), (16, .iconst 0, 1), (17, .ireturn, 1)]
set_option maxRecDepth 100000 in
theorem DL_size_ok : ∀ q ∈ DL_size, decode cL_size q.1 = .ok q.2 := ck_ok (by decide +kernel)
def DL_depth : List (Nat × Instr × Nat) := [(0, .aload_n 2, 1), (1, .aload_n 0, 1), (2, .iload_n 1, 1), (3, .invokevirtual 86, 3), (6, .i2l, 1), (7, .putfield 13, 3), (10, .goto 6, 3), (13, .astore_n 3, 1), (14, .iconst 1, 1), (15, .ireturn, 1), (16, .iconst 0, 1), (17, .ireturn, 1)]
set_option maxRecDepth 100000 in
theorem DL_depth_ok : ∀ q ∈ DL_depth, decode cL_depth q.1 = .ok q.2 := ck_ok (by decide +kernel)
def DL_shared : List (Nat × Instr × Nat) := [(0, .aload_n 2, 1), (1, .aload_n 0, 1), (2, .iload_n 1, 1), (3, .invokevirtual 89, 3), (6, .i2l, 1), (7, .putfield 13, 3), (10, .goto 6, 3), (13, .astore_n 3, 1), (14, .iconst 1, 1), (15, .ireturn, 1), (16, .iconst 0, 1), (17, .ireturn, 1)]
set_option maxRecDepth 100000 in
theorem DL_shared_ok : ∀ q ∈ DL_shared, decode cL_shared q.1 = .ok q.2 := ck_ok (by decide +kernel)
def DL_letter : List (Nat × Instr × Nat) := [(0, .aload_n 3, 1), (1, .aload_n 0, 1), (2, .iload_n 1, 1), (3, .iload_n 2, 1), (4, .invokevirtual 92, 3), (7, .i2l, 1), (8, .putfield 13, 3), (11, .goto 7, 3), (14, .astore 4, 2), (16, .iconst 1, 1), (17, .ireturn, 1), (18, .iconst 0, 1), (19, .ireturn, 1)]
set_option maxRecDepth 100000 in
theorem DL_letter_ok : ∀ q ∈ DL_letter, decode cL_letter q.1 = .ok q.2 := ck_ok (by decide +kernel)
def DL_sizeAt : List (Nat × Instr × Nat) := [(0, .aload_n 3, 1), (1, .aload_n 0, 1), (2, .iload_n 1, 1), (3, .iload_n 2, 1), (4, .invokevirtual 95, 3), (7, .i2l, 1), (8, .putfield 13, 3), (11, .goto 7, 3), (14, .astore 4, 2), (16, .iconst 1, 1), (17, .ireturn, 1), (18, .iconst 0, 1), (19, .ireturn, 1)]
set_option maxRecDepth 100000 in
theorem DL_sizeAt_ok : ∀ q ∈ DL_sizeAt, decode cL_sizeAt q.1 = .ok q.2 := ck_ok (by decide +kernel)
def DL_count : List (Nat × Instr × Nat) := [(0, .aload_n 3, 1), (1, .aload_n 0, 1), (2, .iload_n 1, 1), (3, .iload_n 2, 1), (4, .invokevirtual 98, 3), (7, .i2l, 1), (8, .putfield 13, 3), (11, .goto 11, 3), (14, .astore 4, 2), (16, .iconst 1, 1), (17, .ireturn, 1), (18, .astore 4, 2), (20, .iconst 2, 1), (21, .ireturn, 1), (22, .iconst 0, 1), (23, .ireturn, 1)]
set_option maxRecDepth 100000 in
theorem DL_count_ok : ∀ q ∈ DL_count, decode cL_count q.1 = .ok q.2 := ck_ok (by decide +kernel)
def DL_names : List (Nat × Instr × Nat) := [(0, .aload_n 2, 1), (1, .aload_n 0, 1), (2, .iload_n 1, 1), (3, .invokevirtual 101, 3), (6, .i2l, 1), (7, .putfield 13, 3), (10, .goto 6, 3), (13, .astore_n 3, 1), (14, .iconst 1, 1), (15, .ireturn, 1), (16, .iconst 0, 1), (17, .ireturn, 1)]
set_option maxRecDepth 100000 in
theorem DL_names_ok : ∀ q ∈ DL_names, decode cL_names q.1 = .ok q.2 := ck_ok (by decide +kernel)
def DL_find : List (Nat × Instr × Nat) := [(0, .aload_n 3, 1), (1, .aload_n 0, 1), (2, .iload_n 1, 1), (3, .iload_n 2, 1), (4, .invokevirtual 104, 3), (7, .i2l, 1), (8, .putfield 13, 3), (11, .goto 7, 3), (14, .astore 4, 2), (16, .iconst 1, 1), (17, .ireturn, 1), (18, .iconst 0, 1), (19, .ireturn, 1)]
set_option maxRecDepth 100000 in
theorem DL_find_ok : ∀ q ∈ DL_find, decode cL_find q.1 = .ok q.2 := ck_ok (by decide +kernel)
def DL_differ : List (Nat × Instr × Nat) := [(0, .aload_n 3, 1), (1, .aload_n 0, 1), (2, .iload_n 1, 1), (3, .iload_n 2, 1), (4, .invokevirtual 107, 3), (7, .i2l, 1), (8, .putfield 13, 3), (11, .goto 7, 3), (14, .astore 4, 2), (16, .iconst 1, 1), (17, .ireturn, 1), (18, .iconst 0, 1), (19, .ireturn, 1)]
set_option maxRecDepth 100000 in
theorem DL_differ_ok : ∀ q ∈ DL_differ, decode cL_differ q.1 = .ok q.2 := ck_ok (by decide +kernel)
def DL_is : List (Nat × Instr × Nat) := [(0, .aload 4, 2), (2, .aload_n 0, 1), (3, .iload_n 1, 1), (4, .iload_n 2, 1), (5, .iload_n 3, 1), (6, .invokevirtual 110, 3), (9, .ifCond .eq 7, 3), (12, .lconst 1, 1), (13, .goto 4, 3), (16, .lconst 0, 1), (17, .putfield 13, 3), (20, .goto 11, 3), (23, .astore 5, 2), (25, .iconst 1, 1), (26, .ireturn, 1), (27, .astore 5, 2), (29, .iconst 2, 1), (30, .ireturn, 1), (31, .iconst 0, 1), (32, .ireturn, 1)]
set_option maxRecDepth 100000 in
theorem DL_is_ok : ∀ q ∈ DL_is, decode cL_is q.1 = .ok q.2 := ck_ok (by decide +kernel)
def DL_can : List (Nat × Instr × Nat) := [(0, .aload 4, 2), (2, .aload_n 0, 1), (3, .iload_n 1, 1), (4, .iload_n 2, 1), (5, .iload_n 3, 1), (6, .invokevirtual 114, 3), (9, .ifCond .eq 7, 3), (12, .lconst 1, 1), (13, .goto 4, 3), (16, .lconst 0, 1), (17, .putfield 13, 3), (20, .goto 11, 3), (23, .astore 5, 2), (25, .iconst 1, 1), (26, .ireturn, 1), (27, .astore 5, 2), (29, .iconst 2, 1), (30, .ireturn, 1), (31, .iconst 0, 1), (32, .ireturn, 1)]
set_option maxRecDepth 100000 in
theorem DL_can_ok : ∀ q ∈ DL_can, decode cL_can q.1 = .ok q.2 := ck_ok (by decide +kernel)
def DL_steps : List (Nat × Instr × Nat) := [(0, .aload_n 3, 1), (1, .aload_n 0, 1), (2, .iload_n 1, 1), (3, .iload_n 2, 1), (4, .invokevirtual 117, 3), (7, .i2l, 1), (8, .putfield 13, 3), (11, .goto 7, 3), (14, .astore 4, 2), (16, .iconst 1, 1), (17, .ireturn, 1), (18, .iconst 0, 1), (19, .ireturn, 1)]
set_option maxRecDepth 100000 in
theorem DL_steps_ok : ∀ q ∈ DL_steps, decode cL_steps q.1 = .ok q.2 := ck_ok (by decide +kernel)
def DL_why : List (Nat × Instr × Nat) := [(0, .aload_n 3, 1), (1, .aload_n 0, 1), (2, .iload_n 1, 1), (3, .iload_n 2, 1), (4, .invokevirtual 120, 3), (7, .i2l, 1), (8, .putfield 13, 3), (11, .goto 7, 3), (14, .astore 4, 2), (16, .iconst 1, 1), (17, .ireturn, 1), (18, .iconst 0, 1), (19, .ireturn, 1)]
set_option maxRecDepth 100000 in
theorem DL_why_ok : ∀ q ∈ DL_why, decode cL_why q.1 = .ok q.2 := ck_ok (by decide +kernel)
def DL_told : List (Nat × Instr × Nat) := [(0, .aload_n 3, 1), (1, .aload_n 0, 1), (2, .iload_n 1, 1), (3, .iload_n 2, 1), (4, .invokevirtual 123, 3), (7, .putfield 79, 3), (10, .goto 11, 3), (13, .astore 4, 2), (15, .iconst 1, 1), (16, .ireturn, 1), (17, .astore 4, 2), (19, .iconst 2, 1), (20, .ireturn, 1), (21, .iconst 0, 1), (22, .ireturn, 1)]
set_option maxRecDepth 100000 in
theorem DL_told_ok : ∀ q ∈ DL_told, decode cL_told q.1 = .ok q.2 := ck_ok (by decide +kernel)
def DL_moved : List (Nat × Instr × Nat) := [(0, .aload_n 2, 1), (1, .aload_n 0, 1), (2, .iload_n 1, 1), (3, .invokevirtual 127, 3), (6, .i2l, 1), (7, .putfield 13, 3), (10, .goto 6, 3), (13, .astore_n 3, 1), (14, .iconst 1, 1), (15, .ireturn, 1), (16, .iconst 0, 1), (17, .ireturn, 1)]
set_option maxRecDepth 100000 in
theorem DL_moved_ok : ∀ q ∈ DL_moved, decode cL_moved q.1 = .ok q.2 := ck_ok (by decide +kernel)
def DL_makes : List (Nat × Instr × Nat) := [(0, .aload 4, 2), (2, .aload_n 0, 1), (3, .iload_n 1, 1), (4, .iload_n 2, 1), (5, .iload_n 3, 1), (6, .invokevirtual 130, 3), (9, .ifCond .eq 7, 3), (12, .lconst 1, 1), (13, .goto 4, 3), (16, .lconst 0, 1), (17, .putfield 13, 3), (20, .goto 7, 3), (23, .astore 5, 2), (25, .iconst 1, 1), (26, .ireturn, 1), (27, .iconst 0, 1), (28, .ireturn, 1)]
set_option maxRecDepth 100000 in
theorem DL_makes_ok : ∀ q ∈ DL_makes, decode cL_makes q.1 = .ok q.2 := ck_ok (by decide +kernel)
def DL_isSo : List (Nat × Instr × Nat) := [(0, .aload_n 3, 1), (1, .aload_n 0, 1), (2, .iload_n 1, 1), (3, .iload_n 2, 1), (4, .invokevirtual 133, 3), (7, .ifCond .eq 7, 3), (10, .lconst 1, 1), (11, .goto 4, 3), (14, .lconst 0, 1), (15, .putfield 13, 3), (18, .goto 11, 3), (21, .astore 4, 2), (23, .iconst 1, 1), (24, .ireturn, 1), (25, .astore 4, 2), (27, .iconst 2, 1), (28, .ireturn, 1), (29, .iconst 0, 1), (30, .ireturn, 1)]
set_option maxRecDepth 100000 in
theorem DL_isSo_ok : ∀ q ∈ DL_isSo, decode cL_isSo q.1 = .ok q.2 := ck_ok (by decide +kernel)
def DL_unlike : List (Nat × Instr × Nat) := [(0, .aload_n 3, 1), (1, .aload_n 0, 1), (2, .iload_n 1, 1), (3, .iload_n 2, 1), (4, .invokevirtual 137, 3), (7, .i2l, 1), (8, .putfield 13, 3), (11, .goto 7, 3), (14, .astore 4, 2), (16, .iconst 1, 1), (17, .ireturn, 1), (18, .iconst 0, 1), (19, .ireturn, 1)]
set_option maxRecDepth 100000 in
theorem DL_unlike_ok : ∀ q ∈ DL_unlike, decode cL_unlike q.1 = .ok q.2 := ck_ok (by decide +kernel)
def DL_weight : List (Nat × Instr × Nat) := [(0, .aload_n 3, 1), (1, .aload_n 0, 1), (2, .iload_n 1, 1), (3, .iload_n 2, 1), (4, .invokevirtual 140, 3), (7, .i2l, 1), (8, .putfield 13, 3), (11, .goto 7, 3), (14, .astore 4, 2), (16, .iconst 1, 1), (17, .ireturn, 1), (18, .iconst 0, 1), (19, .ireturn, 1)]
set_option maxRecDepth 100000 in
theorem DL_weight_ok : ∀ q ∈ DL_weight, decode cL_weight q.1 = .ok q.2 := ck_ok (by decide +kernel)
def DL_house : List (Nat × Instr × Nat) := [(0, .aload_n 2, 1), (1, .aload_n 0, 1), (2, .iload_n 1, 1), (3, .invokevirtual 144, 3), (6, .i2l, 1), (7, .putfield 13, 3), (10, .goto 6, 3), (13, .astore_n 3, 1), (14, .iconst 1, 1), (15, .ireturn, 1), (16, .iconst 0, 1), (17, .ireturn, 1)]
set_option maxRecDepth 100000 in
theorem DL_house_ok : ∀ q ∈ DL_house, decode cL_house q.1 = .ok q.2 := ck_ok (by decide +kernel)
def SL_a : List UInt8 := [0xbb, 0x00, 0x08, 0x59, 0xb7, 0x00, 0x93, 0x4c, 0xbb, 0x00, 0x94, 0x59, 0xb7, 0x00, 0x96, 0x4d, 0xbb, 0x00, 0x0e, 0x59, 0xb7, 0x00, 0x97, 0x4e, 0x03, 0x36, 0x04, 0x15, 0x04, 0x2a, 0xbe, 0x10, 0x06, 0x64, 0xa3, 0x07, 0x5c, 0x2a, 0x15, 0x04, 0x2e, 0x10, 0x3f, 0x7e, 0xaa, 0x00, 0x00, 0x00, 0x00, 0x00, 0x07, 0x4c, 0x00, 0x00, 0x00, 0x00, 0x00, 0x00, 0x00, 0x28, 0x00, 0x00, 0x00, 0xb4, 0x00, 0x00, 0x00, 0xdc, 0x00, 0x00, 0x01, 0x28, 0x00, 0x00, 0x01, 0x50, 0x00, 0x00, 0x01, 0x78, 0x00, 0x00, 0x01, 0xac, 0x00, 0x00, 0x01, 0xe0, 0x00, 0x00, 0x02, 0x14, 0x00, 0x00, 0x02, 0x3c, 0x00, 0x00, 0x02, 0x58, 0x00, 0x00, 0x02, 0x8c, 0x00, 0x00, 0x02, 0xc0, 0x00, 0x00, 0x02, 0xdc, 0x00, 0x00, 0x03, 0x10, 0x00, 0x00, 0x03, 0x38, 0x00, 0x00, 0x03, 0x6c, 0x00, 0x00, 0x03, 0xac, 0x00, 0x00, 0x03, 0xe0, 0x00, 0x00, 0x03, 0xfc, 0x00, 0x00, 0x04, 0x18, 0x00, 0x00, 0x04, 0x34, 0x00, 0x00, 0x04, 0x50, 0x00, 0x00, 0x04, 0x78, 0x00, 0x00, 0x04, 0xa0, 0x00, 0x00, 0x04, 0xc8, 0x00, 0x00, 0x04, 0xe4, 0x00, 0x00, 0x05, 0x0c, 0x00, 0x00, 0x05, 0x34, 0x00, 0x00, 0x05, 0x68, 0x00, 0x00, 0x05, 0x9c, 0x00, 0x00, 0x05, 0xc4, 0x00, 0x00, 0x05, 0xec, 0x00, 0x00, 0x06, 0x14, 0x00, 0x00, 0x06, 0x4d, 0x00, 0x00, 0x06, 0x81, 0x00, 0x00, 0x06, 0xa9, 0x00, 0x00, 0x06, 0xd1, 0x00, 0x00, 0x07, 0x09, 0x00, 0x00, 0x07, 0x25, 0x00, 0x00, 0x07, 0x32, 0x00, 0x00, 0x07, 0x3f]
def SL_c0 : List UInt8 := [0x2b, 0x2a, 0x15, 0x04, 0x04, 0x60, 0x2e, 0x2a, 0x15, 0x04, 0x05, 0x60, 0x2e, 0x2d, 0xb8, 0x00, 0x98, 0x36, 0x05, 0x2c, 0x2a, 0x15, 0x04, 0x04, 0x60, 0x2e, 0x2a, 0x15, 0x04, 0x05, 0x60, 0x2e, 0xb6, 0x00, 0x9d, 0x36, 0x06, 0xa7, 0x06, 0x73]
def SL_c1 : List UInt8 := [0x2b, 0x2a, 0x15, 0x04, 0x04, 0x60, 0x2e, 0x2a, 0x15, 0x04, 0x05, 0x60, 0x2e, 0x2a, 0x15, 0x04, 0x06, 0x60, 0x2e, 0x2a, 0x15, 0x04, 0x07, 0x60, 0x2e, 0x2a, 0x15, 0x04, 0x08, 0x60, 0x2e, 0x2d, 0xb8, 0x00, 0x9e, 0x36, 0x05, 0x2c, 0x2a, 0x15, 0x04, 0x04, 0x60, 0x2e, 0x2a, 0x15, 0x04, 0x05, 0x60, 0x2e, 0x2a, 0x15, 0x04, 0x06, 0x60, 0x2e, 0x2a, 0x15, 0x04, 0x07, 0x60, 0x2e, 0x2a, 0x15, 0x04, 0x08, 0x60, 0x2e, 0xb6, 0x00, 0xa1, 0x36, 0x06, 0xa7, 0x06, 0x27]
def SL_c2 : List UInt8 := [0x2b, 0x2a, 0x15, 0x04, 0x04, 0x60, 0x2e, 0x2a, 0x15, 0x04, 0x05, 0x60, 0x2e, 0x2d, 0xb8, 0x00, 0xa2, 0x36, 0x05, 0x2c, 0x2a, 0x15, 0x04, 0x04, 0x60, 0x2e, 0x2a, 0x15, 0x04, 0x05, 0x60, 0x2e, 0xb6, 0x00, 0xa4, 0x36, 0x06, 0xa7, 0x05, 0xff]
def SL_c3 : List UInt8 := [0x2b, 0x2a, 0x15, 0x04, 0x04, 0x60, 0x2e, 0x2a, 0x15, 0x04, 0x05, 0x60, 0x2e, 0x2d, 0xb8, 0x00, 0xa5, 0x36, 0x05, 0x2c, 0x2a, 0x15, 0x04, 0x04, 0x60, 0x2e, 0x2a, 0x15, 0x04, 0x05, 0x60, 0x2e, 0xb6, 0x00, 0xa7, 0x36, 0x06, 0xa7, 0x05, 0xd7]
def SL_c4 : List UInt8 := [0x2b, 0x2a, 0x15, 0x04, 0x04, 0x60, 0x2e, 0x2a, 0x15, 0x04, 0x05, 0x60, 0x2e, 0x2a, 0x15, 0x04, 0x06, 0x60, 0x2e, 0x2d, 0xb8, 0x00, 0xa8, 0x36, 0x05, 0x2c, 0x2a, 0x15, 0x04, 0x04, 0x60, 0x2e, 0x2a, 0x15, 0x04, 0x05, 0x60, 0x2e, 0x2a, 0x15, 0x04, 0x06, 0x60, 0x2e, 0xb6, 0x00, 0xab, 0x36, 0x06, 0xa7, 0x05, 0xa3]
def SL_c5 : List UInt8 := [0x2b, 0x2a, 0x15, 0x04, 0x04, 0x60, 0x2e, 0x2a, 0x15, 0x04, 0x05, 0x60, 0x2e, 0x2a, 0x15, 0x04, 0x06, 0x60, 0x2e, 0x2d, 0xb8, 0x00, 0xac, 0x36, 0x05, 0x2c, 0x2a, 0x15, 0x04, 0x04, 0x60, 0x2e, 0x2a, 0x15, 0x04, 0x05, 0x60, 0x2e, 0x2a, 0x15, 0x04, 0x06, 0x60, 0x2e, 0xb6, 0x00, 0xae, 0x36, 0x06, 0xa7, 0x05, 0x6f]
def SL_c6 : List UInt8 := [0x2b, 0x2a, 0x15, 0x04, 0x04, 0x60, 0x2e, 0x2a, 0x15, 0x04, 0x05, 0x60, 0x2e, 0x2a, 0x15, 0x04, 0x06, 0x60, 0x2e, 0x2d, 0xb8, 0x00, 0xaf, 0x36, 0x05, 0x2c, 0x2a, 0x15, 0x04, 0x04, 0x60, 0x2e, 0x2a, 0x15, 0x04, 0x05, 0x60, 0x2e, 0x2a, 0x15, 0x04, 0x06, 0x60, 0x2e, 0xb6, 0x00, 0xb1, 0x36, 0x06, 0xa7, 0x05, 0x3b]
def SL_c7 : List UInt8 := [0x2b, 0x2a, 0x15, 0x04, 0x04, 0x60, 0x2e, 0x2a, 0x15, 0x04, 0x05, 0x60, 0x2e, 0x2d, 0xb8, 0x00, 0xb2, 0x36, 0x05, 0x2c, 0x2a, 0x15, 0x04, 0x04, 0x60, 0x2e, 0x2a, 0x15, 0x04, 0x05, 0x60, 0x2e, 0xb6, 0x00, 0xb4, 0x36, 0x06, 0xa7, 0x05, 0x13]
def SL_c8 : List UInt8 := [0x2b, 0x2a, 0x15, 0x04, 0x04, 0x60, 0x2e, 0x2d, 0xb8, 0x00, 0xb5, 0x36, 0x05, 0x2c, 0x2a, 0x15, 0x04, 0x04, 0x60, 0x2e, 0xb6, 0x00, 0xb8, 0x36, 0x06, 0xa7, 0x04, 0xf7]
def SL_c9 : List UInt8 := [0x2b, 0x2a, 0x15, 0x04, 0x04, 0x60, 0x2e, 0x2a, 0x15, 0x04, 0x05, 0x60, 0x2e, 0x2a, 0x15, 0x04, 0x06, 0x60, 0x2e, 0x2d, 0xb8, 0x00, 0xb9, 0x36, 0x05, 0x2c, 0x2a, 0x15, 0x04, 0x04, 0x60, 0x2e, 0x2a, 0x15, 0x04, 0x05, 0x60, 0x2e, 0x2a, 0x15, 0x04, 0x06, 0x60, 0x2e, 0xb6, 0x00, 0xbb, 0x36, 0x06, 0xa7, 0x04, 0xc3]
def SL_c10 : List UInt8 := [0x2b, 0x2a, 0x15, 0x04, 0x04, 0x60, 0x2e, 0x2a, 0x15, 0x04, 0x05, 0x60, 0x2e, 0x2a, 0x15, 0x04, 0x06, 0x60, 0x2e, 0x2d, 0xb8, 0x00, 0xbc, 0x36, 0x05, 0x2c, 0x2a, 0x15, 0x04, 0x04, 0x60, 0x2e, 0x2a, 0x15, 0x04, 0x05, 0x60, 0x2e, 0x2a, 0x15, 0x04, 0x06, 0x60, 0x2e, 0xb6, 0x00, 0xbe, 0x36, 0x06, 0xa7, 0x04, 0x8f]
def SL_c11 : List UInt8 := [0x2b, 0x2a, 0x15, 0x04, 0x04, 0x60, 0x2e, 0x2d, 0xb8, 0x00, 0xbf, 0x36, 0x05, 0x2c, 0x2a, 0x15, 0x04, 0x04, 0x60, 0x2e, 0xb6, 0x00, 0xc1, 0x36, 0x06, 0xa7, 0x04, 0x73]
def SL_c12 : List UInt8 := [0x2b, 0x2a, 0x15, 0x04, 0x04, 0x60, 0x2e, 0x2a, 0x15, 0x04, 0x05, 0x60, 0x2e, 0x2a, 0x15, 0x04, 0x06, 0x60, 0x2e, 0x2d, 0xb8, 0x00, 0xc2, 0x36, 0x05, 0x2c, 0x2a, 0x15, 0x04, 0x04, 0x60, 0x2e, 0x2a, 0x15, 0x04, 0x05, 0x60, 0x2e, 0x2a, 0x15, 0x04, 0x06, 0x60, 0x2e, 0xb6, 0x00, 0xc4, 0x36, 0x06, 0xa7, 0x04, 0x3f]
def SL_c13 : List UInt8 := [0x2b, 0x2a, 0x15, 0x04, 0x04, 0x60, 0x2e, 0x2a, 0x15, 0x04, 0x05, 0x60, 0x2e, 0x2d, 0xb8, 0x00, 0xc5, 0x36, 0x05, 0x2c, 0x2a, 0x15, 0x04, 0x04, 0x60, 0x2e, 0x2a, 0x15, 0x04, 0x05, 0x60, 0x2e, 0xb6, 0x00, 0xc7, 0x36, 0x06, 0xa7, 0x04, 0x17]
def SL_c14 : List UInt8 := [0x2b, 0x2a, 0x15, 0x04, 0x04, 0x60, 0x2e, 0x2a, 0x15, 0x04, 0x05, 0x60, 0x2e, 0x2a, 0x15, 0x04, 0x06, 0x60, 0x2e, 0x2d, 0xb8, 0x00, 0xc8, 0x36, 0x05, 0x2c, 0x2a, 0x15, 0x04, 0x04, 0x60, 0x2e, 0x2a, 0x15, 0x04, 0x05, 0x60, 0x2e, 0x2a, 0x15, 0x04, 0x06, 0x60, 0x2e, 0xb6, 0x00, 0xca, 0x36, 0x06, 0xa7, 0x03, 0xe3]
def SL_c15 : List UInt8 := [0x2b, 0x2a, 0x15, 0x04, 0x04, 0x60, 0x2e, 0x2a, 0x15, 0x04, 0x05, 0x60, 0x2e, 0x2a, 0x15, 0x04, 0x06, 0x60, 0x2e, 0x2a, 0x15, 0x04, 0x07, 0x60, 0x2e, 0x2d, 0xb8, 0x00, 0xcb, 0x36, 0x05, 0x2c, 0x2a, 0x15, 0x04, 0x04, 0x60, 0x2e, 0x2a, 0x15, 0x04, 0x05, 0x60, 0x2e, 0x2a, 0x15, 0x04, 0x06, 0x60, 0x2e, 0x2a, 0x15, 0x04, 0x07, 0x60, 0x2e, 0xb6, 0x00, 0xce, 0x36, 0x06, 0xa7, 0x03, 0xa3]
def SL_c16 : List UInt8 := [0x2b, 0x2a, 0x15, 0x04, 0x04, 0x60, 0x2e, 0x2a, 0x15, 0x04, 0x05, 0x60, 0x2e, 0x2a, 0x15, 0x04, 0x06, 0x60, 0x2e, 0x2d, 0xb8, 0x00, 0xcf, 0x36, 0x05, 0x2c, 0x2a, 0x15, 0x04, 0x04, 0x60, 0x2e, 0x2a, 0x15, 0x04, 0x05, 0x60, 0x2e, 0x2a, 0x15, 0x04, 0x06, 0x60, 0x2e, 0xb6, 0x00, 0xd1, 0x36, 0x06, 0xa7, 0x03, 0x6f]
def SL_c17 : List UInt8 := [0x2b, 0x2a, 0x15, 0x04, 0x04, 0x60, 0x2e, 0x2d, 0xb8, 0x00, 0xd2, 0x36, 0x05, 0x2c, 0x2a, 0x15, 0x04, 0x04, 0x60, 0x2e, 0xb6, 0x00, 0xd4, 0x3a, 0x06, 0xa7, 0x03, 0x53]
def SL_c18 : List UInt8 := [0x2b, 0x2a, 0x15, 0x04, 0x04, 0x60, 0x2e, 0x2d, 0xb8, 0x00, 0xd5, 0x36, 0x05, 0x2c, 0x2a, 0x15, 0x04, 0x04, 0x60, 0x2e, 0xb6, 0x00, 0xd7, 0x36, 0x06, 0xa7, 0x03, 0x37]
def SL_c19 : List UInt8 := [0x2b, 0x2a, 0x15, 0x04, 0x04, 0x60, 0x2e, 0x2d, 0xb8, 0x00, 0xd8, 0x36, 0x05, 0x2c, 0x2a, 0x15, 0x04, 0x04, 0x60, 0x2e, 0xb6, 0x00, 0xda, 0x36, 0x06, 0xa7, 0x03, 0x1b]
def SL_c20 : List UInt8 := [0x2b, 0x2a, 0x15, 0x04, 0x04, 0x60, 0x2e, 0x2d, 0xb8, 0x00, 0xdb, 0x36, 0x05, 0x2c, 0x2a, 0x15, 0x04, 0x04, 0x60, 0x2e, 0xb6, 0x00, 0xdd, 0x36, 0x06, 0xa7, 0x02, 0xff]
def SL_c21 : List UInt8 := [0x2b, 0x2a, 0x15, 0x04, 0x04, 0x60, 0x2e, 0x2a, 0x15, 0x04, 0x05, 0x60, 0x2e, 0x2d, 0xb8, 0x00, 0xde, 0x36, 0x05, 0x2c, 0x2a, 0x15, 0x04, 0x04, 0x60, 0x2e, 0x2a, 0x15, 0x04, 0x05, 0x60, 0x2e, 0xb6, 0x00, 0xe0, 0x36, 0x06, 0xa7, 0x02, 0xd7]
def SL_c22 : List UInt8 := [0x2b, 0x2a, 0x15, 0x04, 0x04, 0x60, 0x2e, 0x2a, 0x15, 0x04, 0x05, 0x60, 0x2e, 0x2d, 0xb8, 0x00, 0xe1, 0x36, 0x05, 0x2c, 0x2a, 0x15, 0x04, 0x04, 0x60, 0x2e, 0x2a, 0x15, 0x04, 0x05, 0x60, 0x2e, 0xb6, 0x00, 0xe3, 0x36, 0x06, 0xa7, 0x02, 0xaf]
def SL_c23 : List UInt8 := [0x2b, 0x2a, 0x15, 0x04, 0x04, 0x60, 0x2e, 0x2a, 0x15, 0x04, 0x05, 0x60, 0x2e, 0x2d, 0xb8, 0x00, 0xe4, 0x36, 0x05, 0x2c, 0x2a, 0x15, 0x04, 0x04, 0x60, 0x2e, 0x2a, 0x15, 0x04, 0x05, 0x60, 0x2e, 0xb6, 0x00, 0xe6, 0x36, 0x06, 0xa7, 0x02, 0x87]
def SL_c24 : List UInt8 := [0x2b, 0x2a, 0x15, 0x04, 0x04, 0x60, 0x2e, 0x2d, 0xb8, 0x00, 0xe7, 0x36, 0x05, 0x2c, 0x2a, 0x15, 0x04, 0x04, 0x60, 0x2e, 0xb6, 0x00, 0xe9, 0x36, 0x06, 0xa7, 0x02, 0x6b]
def SL_c25 : List UInt8 := [0x2b, 0x2a, 0x15, 0x04, 0x04, 0x60, 0x2e, 0x2a, 0x15, 0x04, 0x05, 0x60, 0x2e, 0x2d, 0xb8, 0x00, 0xea, 0x36, 0x05, 0x2c, 0x2a, 0x15, 0x04, 0x04, 0x60, 0x2e, 0x2a, 0x15, 0x04, 0x05, 0x60, 0x2e, 0xb6, 0x00, 0xec, 0x36, 0x06, 0xa7, 0x02, 0x43]
def SL_c26 : List UInt8 := [0x2b, 0x2a, 0x15, 0x04, 0x04, 0x60, 0x2e, 0x2a, 0x15, 0x04, 0x05, 0x60, 0x2e, 0x2d, 0xb8, 0x00, 0xed, 0x36, 0x05, 0x2c, 0x2a, 0x15, 0x04, 0x04, 0x60, 0x2e, 0x2a, 0x15, 0x04, 0x05, 0x60, 0x2e, 0xb6, 0x00, 0xef, 0x36, 0x06, 0xa7, 0x02, 0x1b]
def SL_c27 : List UInt8 := [0x2b, 0x2a, 0x15, 0x04, 0x04, 0x60, 0x2e, 0x2a, 0x15, 0x04, 0x05, 0x60, 0x2e, 0x2a, 0x15, 0x04, 0x06, 0x60, 0x2e, 0x2d, 0xb8, 0x00, 0xf0, 0x36, 0x05, 0x2c, 0x2a, 0x15, 0x04, 0x04, 0x60, 0x2e, 0x2a, 0x15, 0x04, 0x05, 0x60, 0x2e, 0x2a, 0x15, 0x04, 0x06, 0x60, 0x2e, 0xb6, 0x00, 0xf2, 0x36, 0x06, 0xa7, 0x01, 0xe7]
def SL_c28 : List UInt8 := [0x2b, 0x2a, 0x15, 0x04, 0x04, 0x60, 0x2e, 0x2a, 0x15, 0x04, 0x05, 0x60, 0x2e, 0x2a, 0x15, 0x04, 0x06, 0x60, 0x2e, 0x2d, 0xb8, 0x00, 0xf3, 0x36, 0x05, 0x2c, 0x2a, 0x15, 0x04, 0x04, 0x60, 0x2e, 0x2a, 0x15, 0x04, 0x05, 0x60, 0x2e, 0x2a, 0x15, 0x04, 0x06, 0x60, 0x2e, 0xb6, 0x00, 0xf5, 0x36, 0x06, 0xa7, 0x01, 0xb3]
def SL_c29 : List UInt8 := [0x2b, 0x2a, 0x15, 0x04, 0x04, 0x60, 0x2e, 0x2a, 0x15, 0x04, 0x05, 0x60, 0x2e, 0x2d, 0xb8, 0x00, 0xf6, 0x36, 0x05, 0x2c, 0x2a, 0x15, 0x04, 0x04, 0x60, 0x2e, 0x2a, 0x15, 0x04, 0x05, 0x60, 0x2e, 0xb6, 0x00, 0xf8, 0x36, 0x06, 0xa7, 0x01, 0x8b]
def SL_c30 : List UInt8 := [0x2b, 0x2a, 0x15, 0x04, 0x04, 0x60, 0x2e, 0x2a, 0x15, 0x04, 0x05, 0x60, 0x2e, 0x2d, 0xb8, 0x00, 0xf9, 0x36, 0x05, 0x2c, 0x2a, 0x15, 0x04, 0x04, 0x60, 0x2e, 0x2a, 0x15, 0x04, 0x05, 0x60, 0x2e, 0xb6, 0x00, 0xfb, 0x36, 0x06, 0xa7, 0x01, 0x63]
def SL_c31 : List UInt8 := [0x2b, 0x2a, 0x15, 0x04, 0x04, 0x60, 0x2e, 0x2a, 0x15, 0x04, 0x05, 0x60, 0x2e, 0x2d, 0xb8, 0x00, 0xfc, 0x36, 0x05, 0x2c, 0x2a, 0x15, 0x04, 0x04, 0x60, 0x2e, 0x2a, 0x15, 0x04, 0x05, 0x60, 0x2e, 0xb6, 0x00, 0xfe, 0x3a, 0x06, 0xa7, 0x01, 0x3b]
def SL_c32 : List UInt8 := [0x2b, 0x2a, 0x15, 0x04, 0x04, 0x60, 0x2e, 0x2d, 0xb8, 0x00, 0xff, 0x36, 0x05, 0x2c, 0x2a, 0x15, 0x04, 0x04, 0x60, 0x2e, 0xb6, 0x01, 0x01, 0x36, 0x06, 0x2c, 0xb6, 0x01, 0x02, 0x15, 0x05, 0x9f, 0x00, 0x05, 0x03, 0xac, 0x15, 0x05, 0x9a, 0x00, 0x10, 0x2d, 0xb4, 0x00, 0x0d, 0x15, 0x06, 0x85, 0x94, 0x99, 0x00, 0x05, 0x03, 0xac, 0xa7, 0x01, 0x02]
def SL_c33 : List UInt8 := [0x2b, 0x2a, 0x15, 0x04, 0x04, 0x60, 0x2e, 0x2a, 0x15, 0x04, 0x05, 0x60, 0x2e, 0x2a, 0x15, 0x04, 0x06, 0x60, 0x2e, 0x2d, 0xb8, 0x01, 0x06, 0x36, 0x05, 0x2c, 0x2a, 0x15, 0x04, 0x04, 0x60, 0x2e, 0x2a, 0x15, 0x04, 0x05, 0x60, 0x2e, 0x2a, 0x15, 0x04, 0x06, 0x60, 0x2e, 0xb6, 0x01, 0x08, 0x36, 0x06, 0xa7, 0x00, 0xce]
def SL_c34 : List UInt8 := [0x2b, 0x2a, 0x15, 0x04, 0x04, 0x60, 0x2e, 0x2a, 0x15, 0x04, 0x05, 0x60, 0x2e, 0x2d, 0xb8, 0x01, 0x09, 0x36, 0x05, 0x2c, 0x2a, 0x15, 0x04, 0x04, 0x60, 0x2e, 0x2a, 0x15, 0x04, 0x05, 0x60, 0x2e, 0xb6, 0x01, 0x0b, 0x36, 0x06, 0xa7, 0x00, 0xa6]
def SL_c35 : List UInt8 := [0x2b, 0x2a, 0x15, 0x04, 0x04, 0x60, 0x2e, 0x2a, 0x15, 0x04, 0x05, 0x60, 0x2e, 0x2d, 0xb8, 0x01, 0x0c, 0x36, 0x05, 0x2c, 0x2a, 0x15, 0x04, 0x04, 0x60, 0x2e, 0x2a, 0x15, 0x04, 0x05, 0x60, 0x2e, 0xb6, 0x01, 0x0e, 0x36, 0x06, 0xa7, 0x00, 0x7e]
def SL_c36 : List UInt8 := [0x2b, 0x2a, 0x15, 0x04, 0x04, 0x60, 0x2e, 0x2a, 0x15, 0x04, 0x05, 0x60, 0x2e, 0x99, 0x00, 0x07, 0x04, 0xa7, 0x00, 0x04, 0x03, 0x2d, 0xb8, 0x01, 0x0f, 0x36, 0x05, 0x2c, 0x2a, 0x15, 0x04, 0x04, 0x60, 0x2e, 0x2a, 0x15, 0x04, 0x05, 0x60, 0x2e, 0x99, 0x00, 0x07, 0x04, 0xa7, 0x00, 0x04, 0x03, 0xb6, 0x01, 0x12, 0x36, 0x06, 0xa7, 0x00, 0x46]
def SL_c37 : List UInt8 := [0x2b, 0x2a, 0x15, 0x04, 0x04, 0x60, 0x2e, 0x2d, 0xb8, 0x01, 0x13, 0x36, 0x05, 0x2c, 0x2a, 0x15, 0x04, 0x04, 0x60, 0x2e, 0xb6, 0x01, 0x15, 0x36, 0x06, 0xa7, 0x00, 0x2a]
def SL_c38 : List UInt8 := [0x2b, 0xb6, 0x01, 0x16, 0x57, 0x2c, 0xb6, 0x01, 0x19, 0x57, 0xa7, 0x00, 0x1d]
def SL_c39 : List UInt8 := [0x2b, 0xb6, 0x01, 0x1a, 0x57, 0x2c, 0xb6, 0x01, 0x1e, 0x57, 0xa7, 0x00, 0x10]
def SL_c40 : List UInt8 := [0x2b, 0xb6, 0x01, 0x1f, 0x58, 0x2c, 0xb6, 0x01, 0x23, 0x58, 0xa7, 0x00, 0x03]
def SL_z : List UInt8 := [0x84, 0x04, 0x06, 0xa7, 0xf8, 0xa0, 0x04, 0xac]
def SLs : List (List UInt8) := [SL_a, SL_c0, SL_c1, SL_c2, SL_c3, SL_c4, SL_c5, SL_c6, SL_c7, SL_c8, SL_c9, SL_c10, SL_c11, SL_c12, SL_c13, SL_c14, SL_c15, SL_c16, SL_c17, SL_c18, SL_c19, SL_c20, SL_c21, SL_c22, SL_c23, SL_c24, SL_c25, SL_c26, SL_c27, SL_c28, SL_c29, SL_c30, SL_c31, SL_c32, SL_c33, SL_c34, SL_c35, SL_c36, SL_c37, SL_c38, SL_c39, SL_c40, SL_z]
set_option maxRecDepth 100000 in
theorem cL_bytes : cL_law.data.toList = SLs.flatten := by decide +kernel
def DL_a : List (Nat × Instr × Nat) := [(0, .new 8, 3), (3, .dup, 1), (4, .invokespecial 147, 3), (7, .astore_n 1, 1), (8, .new 148, 3), (11, .dup, 1), (12, .invokespecial 150, 3), (15, .astore_n 2, 1), (16, .new 14, 3), (19, .dup, 1), (20, .invokespecial 151, 3), (23, .astore_n 3, 1), (24, .iconst 0, 1), (25, .istore 4, 2), (27, .iload 4, 2), (29, .aload_n 0, 1), (30, .arraylength, 1), (31, .bipush 6, 2), (33, .isub, 1), (34, .if_icmp .gt 1884, 3), (37, .aload_n 0, 1), (38, .iload 4, 2), (40, .iaload, 1), (41, .bipush 63, 2), (43, .iand, 1), (44, .tableswitch 1868 0 40 #[180, 220, 296, 336, 376, 428, 480, 532, 572, 600, 652, 704, 732, 784, 824, 876, 940, 992, 1020, 1048, 1076, 1104, 1144, 1184, 1224, 1252, 1292, 1332, 1384, 1436, 1476, 1516, 1556, 1613, 1665, 1705, 1745, 1801, 1829, 1842, 1855], 180)]
set_option maxRecDepth 100000 in
theorem DL_a_ok : ∀ q ∈ DL_a, decode cL_law q.1 = .ok q.2 := by decide +kernel
def DL_c0 : List (Nat × Instr × Nat) := [(224, .aload_n 1, 1), (225, .aload_n 0, 1), (226, .iload 4, 2), (228, .iconst 1, 1), (229, .iadd, 1), (230, .iaload, 1), (231, .aload_n 0, 1), (232, .iload 4, 2), (234, .iconst 2, 1), (235, .iadd, 1), (236, .iaload, 1), (237, .aload_n 3, 1), (238, .invokestatic 152, 3), (241, .istore 5, 2), (243, .aload_n 2, 1), (244, .aload_n 0, 1), (245, .iload 4, 2), (247, .iconst 1, 1), (248, .iadd, 1), (249, .iaload, 1), (250, .aload_n 0, 1), (251, .iload 4, 2), (253, .iconst 2, 1), (254, .iadd, 1), (255, .iaload, 1), (256, .invokevirtual 157, 3), (259, .istore 6, 2), (261, .goto 1651, 3)]
set_option maxRecDepth 100000 in
theorem DL_c0_ok : ∀ q ∈ DL_c0, decode cL_law q.1 = .ok q.2 := ck_list cL_bytes (t := 1) (r := SL_c0) (d := 224) rfl (by decide +kernel) (by decide +kernel)
def DL_c1 : List (Nat × Instr × Nat) := [(264, .aload_n 1, 1), (265, .aload_n 0, 1), (266, .iload 4, 2), (268, .iconst 1, 1), (269, .iadd, 1), (270, .iaload, 1), (271, .aload_n 0, 1), (272, .iload 4, 2), (274, .iconst 2, 1), (275, .iadd, 1), (276, .iaload, 1), (277, .aload_n 0, 1), (278, .iload 4, 2), (280, .iconst 3, 1), (281, .iadd, 1), (282, .iaload, 1), (283, .aload_n 0, 1), (284, .iload 4, 2), (286, .iconst 4, 1), (287, .iadd, 1), (288, .iaload, 1), (289, .aload_n 0, 1), (290, .iload 4, 2), (292, .iconst 5, 1), (293, .iadd, 1), (294, .iaload, 1), (295, .aload_n 3, 1), (296, .invokestatic 158, 3), (299, .istore 5, 2), (301, .aload_n 2, 1), (302, .aload_n 0, 1), (303, .iload 4, 2), (305, .iconst 1, 1), (306, .iadd, 1), (307, .iaload, 1), (308, .aload_n 0, 1), (309, .iload 4, 2), (311, .iconst 2, 1), (312, .iadd, 1), (313, .iaload, 1), (314, .aload_n 0, 1), (315, .iload 4, 2), (317, .iconst 3, 1), (318, .iadd, 1), (319, .iaload, 1), (320, .aload_n 0, 1), (321, .iload 4, 2), (323, .iconst 4, 1), (324, .iadd, 1), (325, .iaload, 1), (326, .aload_n 0, 1), (327, .iload 4, 2), (329, .iconst 5, 1), (330, .iadd, 1), (331, .iaload, 1), (332, .invokevirtual 161, 3), (335, .istore 6, 2), (337, .goto 1575, 3)]
set_option maxRecDepth 100000 in
theorem DL_c1_ok : ∀ q ∈ DL_c1, decode cL_law q.1 = .ok q.2 := ck_list cL_bytes (t := 2) (r := SL_c1) (d := 264) rfl (by decide +kernel) (by decide +kernel)
def DL_c2 : List (Nat × Instr × Nat) := [(340, .aload_n 1, 1), (341, .aload_n 0, 1), (342, .iload 4, 2), (344, .iconst 1, 1), (345, .iadd, 1), (346, .iaload, 1), (347, .aload_n 0, 1), (348, .iload 4, 2), (350, .iconst 2, 1), (351, .iadd, 1), (352, .iaload, 1), (353, .aload_n 3, 1), (354, .invokestatic 162, 3), (357, .istore 5, 2), (359, .aload_n 2, 1), (360, .aload_n 0, 1), (361, .iload 4, 2), (363, .iconst 1, 1), (364, .iadd, 1), (365, .iaload, 1), (366, .aload_n 0, 1), (367, .iload 4, 2), (369, .iconst 2, 1), (370, .iadd, 1), (371, .iaload, 1), (372, .invokevirtual 164, 3), (375, .istore 6, 2), (377, .goto 1535, 3)]
set_option maxRecDepth 100000 in
theorem DL_c2_ok : ∀ q ∈ DL_c2, decode cL_law q.1 = .ok q.2 := ck_list cL_bytes (t := 3) (r := SL_c2) (d := 340) rfl (by decide +kernel) (by decide +kernel)
def DL_c3 : List (Nat × Instr × Nat) := [(380, .aload_n 1, 1), (381, .aload_n 0, 1), (382, .iload 4, 2), (384, .iconst 1, 1), (385, .iadd, 1), (386, .iaload, 1), (387, .aload_n 0, 1), (388, .iload 4, 2), (390, .iconst 2, 1), (391, .iadd, 1), (392, .iaload, 1), (393, .aload_n 3, 1), (394, .invokestatic 165, 3), (397, .istore 5, 2), (399, .aload_n 2, 1), (400, .aload_n 0, 1), (401, .iload 4, 2), (403, .iconst 1, 1), (404, .iadd, 1), (405, .iaload, 1), (406, .aload_n 0, 1), (407, .iload 4, 2), (409, .iconst 2, 1), (410, .iadd, 1), (411, .iaload, 1), (412, .invokevirtual 167, 3), (415, .istore 6, 2), (417, .goto 1495, 3)]
set_option maxRecDepth 100000 in
theorem DL_c3_ok : ∀ q ∈ DL_c3, decode cL_law q.1 = .ok q.2 := ck_list cL_bytes (t := 4) (r := SL_c3) (d := 380) rfl (by decide +kernel) (by decide +kernel)
def DL_c4 : List (Nat × Instr × Nat) := [(420, .aload_n 1, 1), (421, .aload_n 0, 1), (422, .iload 4, 2), (424, .iconst 1, 1), (425, .iadd, 1), (426, .iaload, 1), (427, .aload_n 0, 1), (428, .iload 4, 2), (430, .iconst 2, 1), (431, .iadd, 1), (432, .iaload, 1), (433, .aload_n 0, 1), (434, .iload 4, 2), (436, .iconst 3, 1), (437, .iadd, 1), (438, .iaload, 1), (439, .aload_n 3, 1), (440, .invokestatic 168, 3), (443, .istore 5, 2), (445, .aload_n 2, 1), (446, .aload_n 0, 1), (447, .iload 4, 2), (449, .iconst 1, 1), (450, .iadd, 1), (451, .iaload, 1), (452, .aload_n 0, 1), (453, .iload 4, 2), (455, .iconst 2, 1), (456, .iadd, 1), (457, .iaload, 1), (458, .aload_n 0, 1), (459, .iload 4, 2), (461, .iconst 3, 1), (462, .iadd, 1), (463, .iaload, 1), (464, .invokevirtual 171, 3), (467, .istore 6, 2), (469, .goto 1443, 3)]
set_option maxRecDepth 100000 in
theorem DL_c4_ok : ∀ q ∈ DL_c4, decode cL_law q.1 = .ok q.2 := ck_list cL_bytes (t := 5) (r := SL_c4) (d := 420) rfl (by decide +kernel) (by decide +kernel)
def DL_c5 : List (Nat × Instr × Nat) := [(472, .aload_n 1, 1), (473, .aload_n 0, 1), (474, .iload 4, 2), (476, .iconst 1, 1), (477, .iadd, 1), (478, .iaload, 1), (479, .aload_n 0, 1), (480, .iload 4, 2), (482, .iconst 2, 1), (483, .iadd, 1), (484, .iaload, 1), (485, .aload_n 0, 1), (486, .iload 4, 2), (488, .iconst 3, 1), (489, .iadd, 1), (490, .iaload, 1), (491, .aload_n 3, 1), (492, .invokestatic 172, 3), (495, .istore 5, 2), (497, .aload_n 2, 1), (498, .aload_n 0, 1), (499, .iload 4, 2), (501, .iconst 1, 1), (502, .iadd, 1), (503, .iaload, 1), (504, .aload_n 0, 1), (505, .iload 4, 2), (507, .iconst 2, 1), (508, .iadd, 1), (509, .iaload, 1), (510, .aload_n 0, 1), (511, .iload 4, 2), (513, .iconst 3, 1), (514, .iadd, 1), (515, .iaload, 1), (516, .invokevirtual 174, 3), (519, .istore 6, 2), (521, .goto 1391, 3)]
set_option maxRecDepth 100000 in
theorem DL_c5_ok : ∀ q ∈ DL_c5, decode cL_law q.1 = .ok q.2 := ck_list cL_bytes (t := 6) (r := SL_c5) (d := 472) rfl (by decide +kernel) (by decide +kernel)
def DL_c6 : List (Nat × Instr × Nat) := [(524, .aload_n 1, 1), (525, .aload_n 0, 1), (526, .iload 4, 2), (528, .iconst 1, 1), (529, .iadd, 1), (530, .iaload, 1), (531, .aload_n 0, 1), (532, .iload 4, 2), (534, .iconst 2, 1), (535, .iadd, 1), (536, .iaload, 1), (537, .aload_n 0, 1), (538, .iload 4, 2), (540, .iconst 3, 1), (541, .iadd, 1), (542, .iaload, 1), (543, .aload_n 3, 1), (544, .invokestatic 175, 3), (547, .istore 5, 2), (549, .aload_n 2, 1), (550, .aload_n 0, 1), (551, .iload 4, 2), (553, .iconst 1, 1), (554, .iadd, 1), (555, .iaload, 1), (556, .aload_n 0, 1), (557, .iload 4, 2), (559, .iconst 2, 1), (560, .iadd, 1), (561, .iaload, 1), (562, .aload_n 0, 1), (563, .iload 4, 2), (565, .iconst 3, 1), (566, .iadd, 1), (567, .iaload, 1), (568, .invokevirtual 177, 3), (571, .istore 6, 2), (573, .goto 1339, 3)]
set_option maxRecDepth 100000 in
theorem DL_c6_ok : ∀ q ∈ DL_c6, decode cL_law q.1 = .ok q.2 := ck_list cL_bytes (t := 7) (r := SL_c6) (d := 524) rfl (by decide +kernel) (by decide +kernel)
def DL_c7 : List (Nat × Instr × Nat) := [(576, .aload_n 1, 1), (577, .aload_n 0, 1), (578, .iload 4, 2), (580, .iconst 1, 1), (581, .iadd, 1), (582, .iaload, 1), (583, .aload_n 0, 1), (584, .iload 4, 2), (586, .iconst 2, 1), (587, .iadd, 1), (588, .iaload, 1), (589, .aload_n 3, 1), (590, .invokestatic 178, 3), (593, .istore 5, 2), (595, .aload_n 2, 1), (596, .aload_n 0, 1), (597, .iload 4, 2), (599, .iconst 1, 1), (600, .iadd, 1), (601, .iaload, 1), (602, .aload_n 0, 1), (603, .iload 4, 2), (605, .iconst 2, 1), (606, .iadd, 1), (607, .iaload, 1), (608, .invokevirtual 180, 3), (611, .istore 6, 2), (613, .goto 1299, 3)]
set_option maxRecDepth 100000 in
theorem DL_c7_ok : ∀ q ∈ DL_c7, decode cL_law q.1 = .ok q.2 := ck_list cL_bytes (t := 8) (r := SL_c7) (d := 576) rfl (by decide +kernel) (by decide +kernel)
def DL_c8 : List (Nat × Instr × Nat) := [(616, .aload_n 1, 1), (617, .aload_n 0, 1), (618, .iload 4, 2), (620, .iconst 1, 1), (621, .iadd, 1), (622, .iaload, 1), (623, .aload_n 3, 1), (624, .invokestatic 181, 3), (627, .istore 5, 2), (629, .aload_n 2, 1), (630, .aload_n 0, 1), (631, .iload 4, 2), (633, .iconst 1, 1), (634, .iadd, 1), (635, .iaload, 1), (636, .invokevirtual 184, 3), (639, .istore 6, 2), (641, .goto 1271, 3)]
set_option maxRecDepth 100000 in
theorem DL_c8_ok : ∀ q ∈ DL_c8, decode cL_law q.1 = .ok q.2 := ck_list cL_bytes (t := 9) (r := SL_c8) (d := 616) rfl (by decide +kernel) (by decide +kernel)
def DL_c9 : List (Nat × Instr × Nat) := [(644, .aload_n 1, 1), (645, .aload_n 0, 1), (646, .iload 4, 2), (648, .iconst 1, 1), (649, .iadd, 1), (650, .iaload, 1), (651, .aload_n 0, 1), (652, .iload 4, 2), (654, .iconst 2, 1), (655, .iadd, 1), (656, .iaload, 1), (657, .aload_n 0, 1), (658, .iload 4, 2), (660, .iconst 3, 1), (661, .iadd, 1), (662, .iaload, 1), (663, .aload_n 3, 1), (664, .invokestatic 185, 3), (667, .istore 5, 2), (669, .aload_n 2, 1), (670, .aload_n 0, 1), (671, .iload 4, 2), (673, .iconst 1, 1), (674, .iadd, 1), (675, .iaload, 1), (676, .aload_n 0, 1), (677, .iload 4, 2), (679, .iconst 2, 1), (680, .iadd, 1), (681, .iaload, 1), (682, .aload_n 0, 1), (683, .iload 4, 2), (685, .iconst 3, 1), (686, .iadd, 1), (687, .iaload, 1), (688, .invokevirtual 187, 3), (691, .istore 6, 2), (693, .goto 1219, 3)]
set_option maxRecDepth 100000 in
theorem DL_c9_ok : ∀ q ∈ DL_c9, decode cL_law q.1 = .ok q.2 := ck_list cL_bytes (t := 10) (r := SL_c9) (d := 644) rfl (by decide +kernel) (by decide +kernel)
def DL_c10 : List (Nat × Instr × Nat) := [(696, .aload_n 1, 1), (697, .aload_n 0, 1), (698, .iload 4, 2), (700, .iconst 1, 1), (701, .iadd, 1), (702, .iaload, 1), (703, .aload_n 0, 1), (704, .iload 4, 2), (706, .iconst 2, 1), (707, .iadd, 1), (708, .iaload, 1), (709, .aload_n 0, 1), (710, .iload 4, 2), (712, .iconst 3, 1), (713, .iadd, 1), (714, .iaload, 1), (715, .aload_n 3, 1), (716, .invokestatic 188, 3), (719, .istore 5, 2), (721, .aload_n 2, 1), (722, .aload_n 0, 1), (723, .iload 4, 2), (725, .iconst 1, 1), (726, .iadd, 1), (727, .iaload, 1), (728, .aload_n 0, 1), (729, .iload 4, 2), (731, .iconst 2, 1), (732, .iadd, 1), (733, .iaload, 1), (734, .aload_n 0, 1), (735, .iload 4, 2), (737, .iconst 3, 1), (738, .iadd, 1), (739, .iaload, 1), (740, .invokevirtual 190, 3), (743, .istore 6, 2), (745, .goto 1167, 3)]
set_option maxRecDepth 100000 in
theorem DL_c10_ok : ∀ q ∈ DL_c10, decode cL_law q.1 = .ok q.2 := ck_list cL_bytes (t := 11) (r := SL_c10) (d := 696) rfl (by decide +kernel) (by decide +kernel)
def DL_c11 : List (Nat × Instr × Nat) := [(748, .aload_n 1, 1), (749, .aload_n 0, 1), (750, .iload 4, 2), (752, .iconst 1, 1), (753, .iadd, 1), (754, .iaload, 1), (755, .aload_n 3, 1), (756, .invokestatic 191, 3), (759, .istore 5, 2), (761, .aload_n 2, 1), (762, .aload_n 0, 1), (763, .iload 4, 2), (765, .iconst 1, 1), (766, .iadd, 1), (767, .iaload, 1), (768, .invokevirtual 193, 3), (771, .istore 6, 2), (773, .goto 1139, 3)]
set_option maxRecDepth 100000 in
theorem DL_c11_ok : ∀ q ∈ DL_c11, decode cL_law q.1 = .ok q.2 := ck_list cL_bytes (t := 12) (r := SL_c11) (d := 748) rfl (by decide +kernel) (by decide +kernel)
def DL_c12 : List (Nat × Instr × Nat) := [(776, .aload_n 1, 1), (777, .aload_n 0, 1), (778, .iload 4, 2), (780, .iconst 1, 1), (781, .iadd, 1), (782, .iaload, 1), (783, .aload_n 0, 1), (784, .iload 4, 2), (786, .iconst 2, 1), (787, .iadd, 1), (788, .iaload, 1), (789, .aload_n 0, 1), (790, .iload 4, 2), (792, .iconst 3, 1), (793, .iadd, 1), (794, .iaload, 1), (795, .aload_n 3, 1), (796, .invokestatic 194, 3), (799, .istore 5, 2), (801, .aload_n 2, 1), (802, .aload_n 0, 1), (803, .iload 4, 2), (805, .iconst 1, 1), (806, .iadd, 1), (807, .iaload, 1), (808, .aload_n 0, 1), (809, .iload 4, 2), (811, .iconst 2, 1), (812, .iadd, 1), (813, .iaload, 1), (814, .aload_n 0, 1), (815, .iload 4, 2), (817, .iconst 3, 1), (818, .iadd, 1), (819, .iaload, 1), (820, .invokevirtual 196, 3), (823, .istore 6, 2), (825, .goto 1087, 3)]
set_option maxRecDepth 100000 in
theorem DL_c12_ok : ∀ q ∈ DL_c12, decode cL_law q.1 = .ok q.2 := ck_list cL_bytes (t := 13) (r := SL_c12) (d := 776) rfl (by decide +kernel) (by decide +kernel)
def DL_c13 : List (Nat × Instr × Nat) := [(828, .aload_n 1, 1), (829, .aload_n 0, 1), (830, .iload 4, 2), (832, .iconst 1, 1), (833, .iadd, 1), (834, .iaload, 1), (835, .aload_n 0, 1), (836, .iload 4, 2), (838, .iconst 2, 1), (839, .iadd, 1), (840, .iaload, 1), (841, .aload_n 3, 1), (842, .invokestatic 197, 3), (845, .istore 5, 2), (847, .aload_n 2, 1), (848, .aload_n 0, 1), (849, .iload 4, 2), (851, .iconst 1, 1), (852, .iadd, 1), (853, .iaload, 1), (854, .aload_n 0, 1), (855, .iload 4, 2), (857, .iconst 2, 1), (858, .iadd, 1), (859, .iaload, 1), (860, .invokevirtual 199, 3), (863, .istore 6, 2), (865, .goto 1047, 3)]
set_option maxRecDepth 100000 in
theorem DL_c13_ok : ∀ q ∈ DL_c13, decode cL_law q.1 = .ok q.2 := ck_list cL_bytes (t := 14) (r := SL_c13) (d := 828) rfl (by decide +kernel) (by decide +kernel)
def DL_c14 : List (Nat × Instr × Nat) := [(868, .aload_n 1, 1), (869, .aload_n 0, 1), (870, .iload 4, 2), (872, .iconst 1, 1), (873, .iadd, 1), (874, .iaload, 1), (875, .aload_n 0, 1), (876, .iload 4, 2), (878, .iconst 2, 1), (879, .iadd, 1), (880, .iaload, 1), (881, .aload_n 0, 1), (882, .iload 4, 2), (884, .iconst 3, 1), (885, .iadd, 1), (886, .iaload, 1), (887, .aload_n 3, 1), (888, .invokestatic 200, 3), (891, .istore 5, 2), (893, .aload_n 2, 1), (894, .aload_n 0, 1), (895, .iload 4, 2), (897, .iconst 1, 1), (898, .iadd, 1), (899, .iaload, 1), (900, .aload_n 0, 1), (901, .iload 4, 2), (903, .iconst 2, 1), (904, .iadd, 1), (905, .iaload, 1), (906, .aload_n 0, 1), (907, .iload 4, 2), (909, .iconst 3, 1), (910, .iadd, 1), (911, .iaload, 1), (912, .invokevirtual 202, 3), (915, .istore 6, 2), (917, .goto 995, 3)]
set_option maxRecDepth 100000 in
theorem DL_c14_ok : ∀ q ∈ DL_c14, decode cL_law q.1 = .ok q.2 := ck_list cL_bytes (t := 15) (r := SL_c14) (d := 868) rfl (by decide +kernel) (by decide +kernel)
def DL_c15 : List (Nat × Instr × Nat) := [(920, .aload_n 1, 1), (921, .aload_n 0, 1), (922, .iload 4, 2), (924, .iconst 1, 1), (925, .iadd, 1), (926, .iaload, 1), (927, .aload_n 0, 1), (928, .iload 4, 2), (930, .iconst 2, 1), (931, .iadd, 1), (932, .iaload, 1), (933, .aload_n 0, 1), (934, .iload 4, 2), (936, .iconst 3, 1), (937, .iadd, 1), (938, .iaload, 1), (939, .aload_n 0, 1), (940, .iload 4, 2), (942, .iconst 4, 1), (943, .iadd, 1), (944, .iaload, 1), (945, .aload_n 3, 1), (946, .invokestatic 203, 3), (949, .istore 5, 2), (951, .aload_n 2, 1), (952, .aload_n 0, 1), (953, .iload 4, 2), (955, .iconst 1, 1), (956, .iadd, 1), (957, .iaload, 1), (958, .aload_n 0, 1), (959, .iload 4, 2), (961, .iconst 2, 1), (962, .iadd, 1), (963, .iaload, 1), (964, .aload_n 0, 1), (965, .iload 4, 2), (967, .iconst 3, 1), (968, .iadd, 1), (969, .iaload, 1), (970, .aload_n 0, 1), (971, .iload 4, 2), (973, .iconst 4, 1), (974, .iadd, 1), (975, .iaload, 1), (976, .invokevirtual 206, 3), (979, .istore 6, 2), (981, .goto 931, 3)]
set_option maxRecDepth 100000 in
theorem DL_c15_ok : ∀ q ∈ DL_c15, decode cL_law q.1 = .ok q.2 := ck_list cL_bytes (t := 16) (r := SL_c15) (d := 920) rfl (by decide +kernel) (by decide +kernel)
def DL_c16 : List (Nat × Instr × Nat) := [(984, .aload_n 1, 1), (985, .aload_n 0, 1), (986, .iload 4, 2), (988, .iconst 1, 1), (989, .iadd, 1), (990, .iaload, 1), (991, .aload_n 0, 1), (992, .iload 4, 2), (994, .iconst 2, 1), (995, .iadd, 1), (996, .iaload, 1), (997, .aload_n 0, 1), (998, .iload 4, 2), (1000, .iconst 3, 1), (1001, .iadd, 1), (1002, .iaload, 1), (1003, .aload_n 3, 1), (1004, .invokestatic 207, 3), (1007, .istore 5, 2), (1009, .aload_n 2, 1), (1010, .aload_n 0, 1), (1011, .iload 4, 2), (1013, .iconst 1, 1), (1014, .iadd, 1), (1015, .iaload, 1), (1016, .aload_n 0, 1), (1017, .iload 4, 2), (1019, .iconst 2, 1), (1020, .iadd, 1), (1021, .iaload, 1), (1022, .aload_n 0, 1), (1023, .iload 4, 2), (1025, .iconst 3, 1), (1026, .iadd, 1), (1027, .iaload, 1), (1028, .invokevirtual 209, 3), (1031, .istore 6, 2), (1033, .goto 879, 3)]
set_option maxRecDepth 100000 in
theorem DL_c16_ok : ∀ q ∈ DL_c16, decode cL_law q.1 = .ok q.2 := ck_list cL_bytes (t := 17) (r := SL_c16) (d := 984) rfl (by decide +kernel) (by decide +kernel)
def DL_c17 : List (Nat × Instr × Nat) := [(1036, .aload_n 1, 1), (1037, .aload_n 0, 1), (1038, .iload 4, 2), (1040, .iconst 1, 1), (1041, .iadd, 1), (1042, .iaload, 1), (1043, .aload_n 3, 1), (1044, .invokestatic 210, 3), (1047, .istore 5, 2), (1049, .aload_n 2, 1), (1050, .aload_n 0, 1), (1051, .iload 4, 2), (1053, .iconst 1, 1), (1054, .iadd, 1), (1055, .iaload, 1), (1056, .invokevirtual 212, 3), (1059, .astore 6, 2), (1061, .goto 851, 3)]
set_option maxRecDepth 100000 in
theorem DL_c17_ok : ∀ q ∈ DL_c17, decode cL_law q.1 = .ok q.2 := ck_list cL_bytes (t := 18) (r := SL_c17) (d := 1036) rfl (by decide +kernel) (by decide +kernel)
def DL_c18 : List (Nat × Instr × Nat) := [(1064, .aload_n 1, 1), (1065, .aload_n 0, 1), (1066, .iload 4, 2), (1068, .iconst 1, 1), (1069, .iadd, 1), (1070, .iaload, 1), (1071, .aload_n 3, 1), (1072, .invokestatic 213, 3), (1075, .istore 5, 2), (1077, .aload_n 2, 1), (1078, .aload_n 0, 1), (1079, .iload 4, 2), (1081, .iconst 1, 1), (1082, .iadd, 1), (1083, .iaload, 1), (1084, .invokevirtual 215, 3), (1087, .istore 6, 2), (1089, .goto 823, 3)]
set_option maxRecDepth 100000 in
theorem DL_c18_ok : ∀ q ∈ DL_c18, decode cL_law q.1 = .ok q.2 := ck_list cL_bytes (t := 19) (r := SL_c18) (d := 1064) rfl (by decide +kernel) (by decide +kernel)
def DL_c19 : List (Nat × Instr × Nat) := [(1092, .aload_n 1, 1), (1093, .aload_n 0, 1), (1094, .iload 4, 2), (1096, .iconst 1, 1), (1097, .iadd, 1), (1098, .iaload, 1), (1099, .aload_n 3, 1), (1100, .invokestatic 216, 3), (1103, .istore 5, 2), (1105, .aload_n 2, 1), (1106, .aload_n 0, 1), (1107, .iload 4, 2), (1109, .iconst 1, 1), (1110, .iadd, 1), (1111, .iaload, 1), (1112, .invokevirtual 218, 3), (1115, .istore 6, 2), (1117, .goto 795, 3)]
set_option maxRecDepth 100000 in
theorem DL_c19_ok : ∀ q ∈ DL_c19, decode cL_law q.1 = .ok q.2 := ck_list cL_bytes (t := 20) (r := SL_c19) (d := 1092) rfl (by decide +kernel) (by decide +kernel)
def DL_c20 : List (Nat × Instr × Nat) := [(1120, .aload_n 1, 1), (1121, .aload_n 0, 1), (1122, .iload 4, 2), (1124, .iconst 1, 1), (1125, .iadd, 1), (1126, .iaload, 1), (1127, .aload_n 3, 1), (1128, .invokestatic 219, 3), (1131, .istore 5, 2), (1133, .aload_n 2, 1), (1134, .aload_n 0, 1), (1135, .iload 4, 2), (1137, .iconst 1, 1), (1138, .iadd, 1), (1139, .iaload, 1), (1140, .invokevirtual 221, 3), (1143, .istore 6, 2), (1145, .goto 767, 3)]
set_option maxRecDepth 100000 in
theorem DL_c20_ok : ∀ q ∈ DL_c20, decode cL_law q.1 = .ok q.2 := ck_list cL_bytes (t := 21) (r := SL_c20) (d := 1120) rfl (by decide +kernel) (by decide +kernel)
def DL_c21 : List (Nat × Instr × Nat) := [(1148, .aload_n 1, 1), (1149, .aload_n 0, 1), (1150, .iload 4, 2), (1152, .iconst 1, 1), (1153, .iadd, 1), (1154, .iaload, 1), (1155, .aload_n 0, 1), (1156, .iload 4, 2), (1158, .iconst 2, 1), (1159, .iadd, 1), (1160, .iaload, 1), (1161, .aload_n 3, 1), (1162, .invokestatic 222, 3), (1165, .istore 5, 2), (1167, .aload_n 2, 1), (1168, .aload_n 0, 1), (1169, .iload 4, 2), (1171, .iconst 1, 1), (1172, .iadd, 1), (1173, .iaload, 1), (1174, .aload_n 0, 1), (1175, .iload 4, 2), (1177, .iconst 2, 1), (1178, .iadd, 1), (1179, .iaload, 1), (1180, .invokevirtual 224, 3), (1183, .istore 6, 2), (1185, .goto 727, 3)]
set_option maxRecDepth 100000 in
theorem DL_c21_ok : ∀ q ∈ DL_c21, decode cL_law q.1 = .ok q.2 := ck_list cL_bytes (t := 22) (r := SL_c21) (d := 1148) rfl (by decide +kernel) (by decide +kernel)
def DL_c22 : List (Nat × Instr × Nat) := [(1188, .aload_n 1, 1), (1189, .aload_n 0, 1), (1190, .iload 4, 2), (1192, .iconst 1, 1), (1193, .iadd, 1), (1194, .iaload, 1), (1195, .aload_n 0, 1), (1196, .iload 4, 2), (1198, .iconst 2, 1), (1199, .iadd, 1), (1200, .iaload, 1), (1201, .aload_n 3, 1), (1202, .invokestatic 225, 3), (1205, .istore 5, 2), (1207, .aload_n 2, 1), (1208, .aload_n 0, 1), (1209, .iload 4, 2), (1211, .iconst 1, 1), (1212, .iadd, 1), (1213, .iaload, 1), (1214, .aload_n 0, 1), (1215, .iload 4, 2), (1217, .iconst 2, 1), (1218, .iadd, 1), (1219, .iaload, 1), (1220, .invokevirtual 227, 3), (1223, .istore 6, 2), (1225, .goto 687, 3)]
set_option maxRecDepth 100000 in
theorem DL_c22_ok : ∀ q ∈ DL_c22, decode cL_law q.1 = .ok q.2 := ck_list cL_bytes (t := 23) (r := SL_c22) (d := 1188) rfl (by decide +kernel) (by decide +kernel)
def DL_c23 : List (Nat × Instr × Nat) := [(1228, .aload_n 1, 1), (1229, .aload_n 0, 1), (1230, .iload 4, 2), (1232, .iconst 1, 1), (1233, .iadd, 1), (1234, .iaload, 1), (1235, .aload_n 0, 1), (1236, .iload 4, 2), (1238, .iconst 2, 1), (1239, .iadd, 1), (1240, .iaload, 1), (1241, .aload_n 3, 1), (1242, .invokestatic 228, 3), (1245, .istore 5, 2), (1247, .aload_n 2, 1), (1248, .aload_n 0, 1), (1249, .iload 4, 2), (1251, .iconst 1, 1), (1252, .iadd, 1), (1253, .iaload, 1), (1254, .aload_n 0, 1), (1255, .iload 4, 2), (1257, .iconst 2, 1), (1258, .iadd, 1), (1259, .iaload, 1), (1260, .invokevirtual 230, 3), (1263, .istore 6, 2), (1265, .goto 647, 3)]
set_option maxRecDepth 100000 in
theorem DL_c23_ok : ∀ q ∈ DL_c23, decode cL_law q.1 = .ok q.2 := ck_list cL_bytes (t := 24) (r := SL_c23) (d := 1228) rfl (by decide +kernel) (by decide +kernel)
def DL_c24 : List (Nat × Instr × Nat) := [(1268, .aload_n 1, 1), (1269, .aload_n 0, 1), (1270, .iload 4, 2), (1272, .iconst 1, 1), (1273, .iadd, 1), (1274, .iaload, 1), (1275, .aload_n 3, 1), (1276, .invokestatic 231, 3), (1279, .istore 5, 2), (1281, .aload_n 2, 1), (1282, .aload_n 0, 1), (1283, .iload 4, 2), (1285, .iconst 1, 1), (1286, .iadd, 1), (1287, .iaload, 1), (1288, .invokevirtual 233, 3), (1291, .istore 6, 2), (1293, .goto 619, 3)]
set_option maxRecDepth 100000 in
theorem DL_c24_ok : ∀ q ∈ DL_c24, decode cL_law q.1 = .ok q.2 := ck_list cL_bytes (t := 25) (r := SL_c24) (d := 1268) rfl (by decide +kernel) (by decide +kernel)
def DL_c25 : List (Nat × Instr × Nat) := [(1296, .aload_n 1, 1), (1297, .aload_n 0, 1), (1298, .iload 4, 2), (1300, .iconst 1, 1), (1301, .iadd, 1), (1302, .iaload, 1), (1303, .aload_n 0, 1), (1304, .iload 4, 2), (1306, .iconst 2, 1), (1307, .iadd, 1), (1308, .iaload, 1), (1309, .aload_n 3, 1), (1310, .invokestatic 234, 3), (1313, .istore 5, 2), (1315, .aload_n 2, 1), (1316, .aload_n 0, 1), (1317, .iload 4, 2), (1319, .iconst 1, 1), (1320, .iadd, 1), (1321, .iaload, 1), (1322, .aload_n 0, 1), (1323, .iload 4, 2), (1325, .iconst 2, 1), (1326, .iadd, 1), (1327, .iaload, 1), (1328, .invokevirtual 236, 3), (1331, .istore 6, 2), (1333, .goto 579, 3)]
set_option maxRecDepth 100000 in
theorem DL_c25_ok : ∀ q ∈ DL_c25, decode cL_law q.1 = .ok q.2 := ck_list cL_bytes (t := 26) (r := SL_c25) (d := 1296) rfl (by decide +kernel) (by decide +kernel)
def DL_c26 : List (Nat × Instr × Nat) := [(1336, .aload_n 1, 1), (1337, .aload_n 0, 1), (1338, .iload 4, 2), (1340, .iconst 1, 1), (1341, .iadd, 1), (1342, .iaload, 1), (1343, .aload_n 0, 1), (1344, .iload 4, 2), (1346, .iconst 2, 1), (1347, .iadd, 1), (1348, .iaload, 1), (1349, .aload_n 3, 1), (1350, .invokestatic 237, 3), (1353, .istore 5, 2), (1355, .aload_n 2, 1), (1356, .aload_n 0, 1), (1357, .iload 4, 2), (1359, .iconst 1, 1), (1360, .iadd, 1), (1361, .iaload, 1), (1362, .aload_n 0, 1), (1363, .iload 4, 2), (1365, .iconst 2, 1), (1366, .iadd, 1), (1367, .iaload, 1), (1368, .invokevirtual 239, 3), (1371, .istore 6, 2), (1373, .goto 539, 3)]
set_option maxRecDepth 100000 in
theorem DL_c26_ok : ∀ q ∈ DL_c26, decode cL_law q.1 = .ok q.2 := ck_list cL_bytes (t := 27) (r := SL_c26) (d := 1336) rfl (by decide +kernel) (by decide +kernel)
def DL_c27 : List (Nat × Instr × Nat) := [(1376, .aload_n 1, 1), (1377, .aload_n 0, 1), (1378, .iload 4, 2), (1380, .iconst 1, 1), (1381, .iadd, 1), (1382, .iaload, 1), (1383, .aload_n 0, 1), (1384, .iload 4, 2), (1386, .iconst 2, 1), (1387, .iadd, 1), (1388, .iaload, 1), (1389, .aload_n 0, 1), (1390, .iload 4, 2), (1392, .iconst 3, 1), (1393, .iadd, 1), (1394, .iaload, 1), (1395, .aload_n 3, 1), (1396, .invokestatic 240, 3), (1399, .istore 5, 2), (1401, .aload_n 2, 1), (1402, .aload_n 0, 1), (1403, .iload 4, 2), (1405, .iconst 1, 1), (1406, .iadd, 1), (1407, .iaload, 1), (1408, .aload_n 0, 1), (1409, .iload 4, 2), (1411, .iconst 2, 1), (1412, .iadd, 1), (1413, .iaload, 1), (1414, .aload_n 0, 1), (1415, .iload 4, 2), (1417, .iconst 3, 1), (1418, .iadd, 1), (1419, .iaload, 1), (1420, .invokevirtual 242, 3), (1423, .istore 6, 2), (1425, .goto 487, 3)]
set_option maxRecDepth 100000 in
theorem DL_c27_ok : ∀ q ∈ DL_c27, decode cL_law q.1 = .ok q.2 := ck_list cL_bytes (t := 28) (r := SL_c27) (d := 1376) rfl (by decide +kernel) (by decide +kernel)
def DL_c28 : List (Nat × Instr × Nat) := [(1428, .aload_n 1, 1), (1429, .aload_n 0, 1), (1430, .iload 4, 2), (1432, .iconst 1, 1), (1433, .iadd, 1), (1434, .iaload, 1), (1435, .aload_n 0, 1), (1436, .iload 4, 2), (1438, .iconst 2, 1), (1439, .iadd, 1), (1440, .iaload, 1), (1441, .aload_n 0, 1), (1442, .iload 4, 2), (1444, .iconst 3, 1), (1445, .iadd, 1), (1446, .iaload, 1), (1447, .aload_n 3, 1), (1448, .invokestatic 243, 3), (1451, .istore 5, 2), (1453, .aload_n 2, 1), (1454, .aload_n 0, 1), (1455, .iload 4, 2), (1457, .iconst 1, 1), (1458, .iadd, 1), (1459, .iaload, 1), (1460, .aload_n 0, 1), (1461, .iload 4, 2), (1463, .iconst 2, 1), (1464, .iadd, 1), (1465, .iaload, 1), (1466, .aload_n 0, 1), (1467, .iload 4, 2), (1469, .iconst 3, 1), (1470, .iadd, 1), (1471, .iaload, 1), (1472, .invokevirtual 245, 3), (1475, .istore 6, 2), (1477, .goto 435, 3)]
set_option maxRecDepth 100000 in
theorem DL_c28_ok : ∀ q ∈ DL_c28, decode cL_law q.1 = .ok q.2 := ck_list cL_bytes (t := 29) (r := SL_c28) (d := 1428) rfl (by decide +kernel) (by decide +kernel)
def DL_c29 : List (Nat × Instr × Nat) := [(1480, .aload_n 1, 1), (1481, .aload_n 0, 1), (1482, .iload 4, 2), (1484, .iconst 1, 1), (1485, .iadd, 1), (1486, .iaload, 1), (1487, .aload_n 0, 1), (1488, .iload 4, 2), (1490, .iconst 2, 1), (1491, .iadd, 1), (1492, .iaload, 1), (1493, .aload_n 3, 1), (1494, .invokestatic 246, 3), (1497, .istore 5, 2), (1499, .aload_n 2, 1), (1500, .aload_n 0, 1), (1501, .iload 4, 2), (1503, .iconst 1, 1), (1504, .iadd, 1), (1505, .iaload, 1), (1506, .aload_n 0, 1), (1507, .iload 4, 2), (1509, .iconst 2, 1), (1510, .iadd, 1), (1511, .iaload, 1), (1512, .invokevirtual 248, 3), (1515, .istore 6, 2), (1517, .goto 395, 3)]
set_option maxRecDepth 100000 in
theorem DL_c29_ok : ∀ q ∈ DL_c29, decode cL_law q.1 = .ok q.2 := ck_list cL_bytes (t := 30) (r := SL_c29) (d := 1480) rfl (by decide +kernel) (by decide +kernel)
def DL_c30 : List (Nat × Instr × Nat) := [(1520, .aload_n 1, 1), (1521, .aload_n 0, 1), (1522, .iload 4, 2), (1524, .iconst 1, 1), (1525, .iadd, 1), (1526, .iaload, 1), (1527, .aload_n 0, 1), (1528, .iload 4, 2), (1530, .iconst 2, 1), (1531, .iadd, 1), (1532, .iaload, 1), (1533, .aload_n 3, 1), (1534, .invokestatic 249, 3), (1537, .istore 5, 2), (1539, .aload_n 2, 1), (1540, .aload_n 0, 1), (1541, .iload 4, 2), (1543, .iconst 1, 1), (1544, .iadd, 1), (1545, .iaload, 1), (1546, .aload_n 0, 1), (1547, .iload 4, 2), (1549, .iconst 2, 1), (1550, .iadd, 1), (1551, .iaload, 1), (1552, .invokevirtual 251, 3), (1555, .istore 6, 2), (1557, .goto 355, 3)]
set_option maxRecDepth 100000 in
theorem DL_c30_ok : ∀ q ∈ DL_c30, decode cL_law q.1 = .ok q.2 := ck_list cL_bytes (t := 31) (r := SL_c30) (d := 1520) rfl (by decide +kernel) (by decide +kernel)
def DL_c31 : List (Nat × Instr × Nat) := [(1560, .aload_n 1, 1), (1561, .aload_n 0, 1), (1562, .iload 4, 2), (1564, .iconst 1, 1), (1565, .iadd, 1), (1566, .iaload, 1), (1567, .aload_n 0, 1), (1568, .iload 4, 2), (1570, .iconst 2, 1), (1571, .iadd, 1), (1572, .iaload, 1), (1573, .aload_n 3, 1), (1574, .invokestatic 252, 3), (1577, .istore 5, 2), (1579, .aload_n 2, 1), (1580, .aload_n 0, 1), (1581, .iload 4, 2), (1583, .iconst 1, 1), (1584, .iadd, 1), (1585, .iaload, 1), (1586, .aload_n 0, 1), (1587, .iload 4, 2), (1589, .iconst 2, 1), (1590, .iadd, 1), (1591, .iaload, 1), (1592, .invokevirtual 254, 3), (1595, .astore 6, 2), (1597, .goto 315, 3)]
set_option maxRecDepth 100000 in
theorem DL_c31_ok : ∀ q ∈ DL_c31, decode cL_law q.1 = .ok q.2 := ck_list cL_bytes (t := 32) (r := SL_c31) (d := 1560) rfl (by decide +kernel) (by decide +kernel)
def DL_c32 : List (Nat × Instr × Nat) := [(1600, .aload_n 1, 1), (1601, .aload_n 0, 1), (1602, .iload 4, 2), (1604, .iconst 1, 1), (1605, .iadd, 1), (1606, .iaload, 1), (1607, .aload_n 3, 1), (1608, .invokestatic 255, 3), (1611, .istore 5, 2), (1613, .aload_n 2, 1), (1614, .aload_n 0, 1), (1615, .iload 4, 2), (1617, .iconst 1, 1), (1618, .iadd, 1), (1619, .iaload, 1), (1620, .invokevirtual 257, 3), (1623, .istore 6, 2), (1625, .aload_n 2, 1), (1626, .invokevirtual 258, 3), (1629, .iload 5, 2), (1631, .if_icmp .eq 5, 3), (1634, .iconst 0, 1), (1635, .ireturn, 1), (1636, .iload 5, 2), (1638, .ifCond .ne 16, 3), (1641, .aload_n 3, 1), (1642, .getfield 13, 3), (1645, .iload 6, 2), (1647, .i2l, 1), (1648, .lcmp, 1), (1649, .ifCond .eq 5, 3), (1652, .iconst 0, 1), (1653, .ireturn, 1), (1654, .goto 258, 3)]
set_option maxRecDepth 100000 in
theorem DL_c32_ok : ∀ q ∈ DL_c32, decode cL_law q.1 = .ok q.2 := ck_list cL_bytes (t := 33) (r := SL_c32) (d := 1600) rfl (by decide +kernel) (by decide +kernel)
def DL_c33 : List (Nat × Instr × Nat) := [(1657, .aload_n 1, 1), (1658, .aload_n 0, 1), (1659, .iload 4, 2), (1661, .iconst 1, 1), (1662, .iadd, 1), (1663, .iaload, 1), (1664, .aload_n 0, 1), (1665, .iload 4, 2), (1667, .iconst 2, 1), (1668, .iadd, 1), (1669, .iaload, 1), (1670, .aload_n 0, 1), (1671, .iload 4, 2), (1673, .iconst 3, 1), (1674, .iadd, 1), (1675, .iaload, 1), (1676, .aload_n 3, 1), (1677, .invokestatic 262, 3), (1680, .istore 5, 2), (1682, .aload_n 2, 1), (1683, .aload_n 0, 1), (1684, .iload 4, 2), (1686, .iconst 1, 1), (1687, .iadd, 1), (1688, .iaload, 1), (1689, .aload_n 0, 1), (1690, .iload 4, 2), (1692, .iconst 2, 1), (1693, .iadd, 1), (1694, .iaload, 1), (1695, .aload_n 0, 1), (1696, .iload 4, 2), (1698, .iconst 3, 1), (1699, .iadd, 1), (1700, .iaload, 1), (1701, .invokevirtual 264, 3), (1704, .istore 6, 2), (1706, .goto 206, 3)]
set_option maxRecDepth 100000 in
theorem DL_c33_ok : ∀ q ∈ DL_c33, decode cL_law q.1 = .ok q.2 := ck_list cL_bytes (t := 34) (r := SL_c33) (d := 1657) rfl (by decide +kernel) (by decide +kernel)
def DL_c34 : List (Nat × Instr × Nat) := [(1709, .aload_n 1, 1), (1710, .aload_n 0, 1), (1711, .iload 4, 2), (1713, .iconst 1, 1), (1714, .iadd, 1), (1715, .iaload, 1), (1716, .aload_n 0, 1), (1717, .iload 4, 2), (1719, .iconst 2, 1), (1720, .iadd, 1), (1721, .iaload, 1), (1722, .aload_n 3, 1), (1723, .invokestatic 265, 3), (1726, .istore 5, 2), (1728, .aload_n 2, 1), (1729, .aload_n 0, 1), (1730, .iload 4, 2), (1732, .iconst 1, 1), (1733, .iadd, 1), (1734, .iaload, 1), (1735, .aload_n 0, 1), (1736, .iload 4, 2), (1738, .iconst 2, 1), (1739, .iadd, 1), (1740, .iaload, 1), (1741, .invokevirtual 267, 3), (1744, .istore 6, 2), (1746, .goto 166, 3)]
set_option maxRecDepth 100000 in
theorem DL_c34_ok : ∀ q ∈ DL_c34, decode cL_law q.1 = .ok q.2 := ck_list cL_bytes (t := 35) (r := SL_c34) (d := 1709) rfl (by decide +kernel) (by decide +kernel)
def DL_c35 : List (Nat × Instr × Nat) := [(1749, .aload_n 1, 1), (1750, .aload_n 0, 1), (1751, .iload 4, 2), (1753, .iconst 1, 1), (1754, .iadd, 1), (1755, .iaload, 1), (1756, .aload_n 0, 1), (1757, .iload 4, 2), (1759, .iconst 2, 1), (1760, .iadd, 1), (1761, .iaload, 1), (1762, .aload_n 3, 1), (1763, .invokestatic 268, 3), (1766, .istore 5, 2), (1768, .aload_n 2, 1), (1769, .aload_n 0, 1), (1770, .iload 4, 2), (1772, .iconst 1, 1), (1773, .iadd, 1), (1774, .iaload, 1), (1775, .aload_n 0, 1), (1776, .iload 4, 2), (1778, .iconst 2, 1), (1779, .iadd, 1), (1780, .iaload, 1), (1781, .invokevirtual 270, 3), (1784, .istore 6, 2), (1786, .goto 126, 3)]
set_option maxRecDepth 100000 in
theorem DL_c35_ok : ∀ q ∈ DL_c35, decode cL_law q.1 = .ok q.2 := ck_list cL_bytes (t := 36) (r := SL_c35) (d := 1749) rfl (by decide +kernel) (by decide +kernel)
def DL_c36 : List (Nat × Instr × Nat) := [(1789, .aload_n 1, 1), (1790, .aload_n 0, 1), (1791, .iload 4, 2), (1793, .iconst 1, 1), (1794, .iadd, 1), (1795, .iaload, 1), (1796, .aload_n 0, 1), (1797, .iload 4, 2), (1799, .iconst 2, 1), (1800, .iadd, 1), (1801, .iaload, 1), (1802, .ifCond .eq 7, 3), (1805, .iconst 1, 1), (1806, .goto 4, 3), (1809, .iconst 0, 1), (1810, .aload_n 3, 1), (1811, .invokestatic 271, 3), (1814, .istore 5, 2), (1816, .aload_n 2, 1), (1817, .aload_n 0, 1), (1818, .iload 4, 2), (1820, .iconst 1, 1), (1821, .iadd, 1), (1822, .iaload, 1), (1823, .aload_n 0, 1), (1824, .iload 4, 2), (1826, .iconst 2, 1), (1827, .iadd, 1), (1828, .iaload, 1), (1829, .ifCond .eq 7, 3), (1832, .iconst 1, 1), (1833, .goto 4, 3), (1836, .iconst 0, 1), (1837, .invokevirtual 274, 3), (1840, .istore 6, 2), (1842, .goto 70, 3)]
set_option maxRecDepth 100000 in
theorem DL_c36_ok : ∀ q ∈ DL_c36, decode cL_law q.1 = .ok q.2 := ck_list cL_bytes (t := 37) (r := SL_c36) (d := 1789) rfl (by decide +kernel) (by decide +kernel)
def DL_c37 : List (Nat × Instr × Nat) := [(1845, .aload_n 1, 1), (1846, .aload_n 0, 1), (1847, .iload 4, 2), (1849, .iconst 1, 1), (1850, .iadd, 1), (1851, .iaload, 1), (1852, .aload_n 3, 1), (1853, .invokestatic 275, 3), (1856, .istore 5, 2), (1858, .aload_n 2, 1), (1859, .aload_n 0, 1), (1860, .iload 4, 2), (1862, .iconst 1, 1), (1863, .iadd, 1), (1864, .iaload, 1), (1865, .invokevirtual 277, 3), (1868, .istore 6, 2), (1870, .goto 42, 3)]
set_option maxRecDepth 100000 in
theorem DL_c37_ok : ∀ q ∈ DL_c37, decode cL_law q.1 = .ok q.2 := ck_list cL_bytes (t := 38) (r := SL_c37) (d := 1845) rfl (by decide +kernel) (by decide +kernel)
def DL_c38 : List (Nat × Instr × Nat) := [(1873, .aload_n 1, 1), (1874, .invokevirtual 278, 3), (1877, .pop, 1), (1878, .aload_n 2, 1), (1879, .invokevirtual 281, 3), (1882, .pop, 1), (1883, .goto 29, 3)]
set_option maxRecDepth 100000 in
theorem DL_c38_ok : ∀ q ∈ DL_c38, decode cL_law q.1 = .ok q.2 := ck_list cL_bytes (t := 39) (r := SL_c38) (d := 1873) rfl (by decide +kernel) (by decide +kernel)
def DL_c39 : List (Nat × Instr × Nat) := [(1886, .aload_n 1, 1), (1887, .invokevirtual 282, 3), (1890, .pop, 1), (1891, .aload_n 2, 1), (1892, .invokevirtual 286, 3), (1895, .pop, 1), (1896, .goto 16, 3)]
set_option maxRecDepth 100000 in
theorem DL_c39_ok : ∀ q ∈ DL_c39, decode cL_law q.1 = .ok q.2 := ck_list cL_bytes (t := 40) (r := SL_c39) (d := 1886) rfl (by decide +kernel) (by decide +kernel)
def DL_c40 : List (Nat × Instr × Nat) := [(1899, .aload_n 1, 1), (1900, .invokevirtual 287, 3), (1903, .pop2, 1), (1904, .aload_n 2, 1), (1905, .invokevirtual 291, 3), (1908, .pop2, 1), (1909, .goto 3, 3)]
set_option maxRecDepth 100000 in
theorem DL_c40_ok : ∀ q ∈ DL_c40, decode cL_law q.1 = .ok q.2 := ck_list cL_bytes (t := 41) (r := SL_c40) (d := 1899) rfl (by decide +kernel) (by decide +kernel)
def DL_z : List (Nat × Instr × Nat) := [(1912, .iinc 4 6, 3), (1915, .goto (-1888), 3), (1918, .iconst 1, 1), (1919, .ireturn, 1)]
set_option maxRecDepth 100000 in
theorem DL_z_ok : ∀ q ∈ DL_z, decode cL_law q.1 = .ok q.2 := ck_list cL_bytes (t := 42) (r := SL_z) (d := 1912) rfl (by decide +kernel) (by decide +kernel)
def DX7_init : List (Nat × Instr × Nat) := [(0, .aload_n 0, 1), (1, .invokespecial 1, 3), (4, .return_, 1)]
set_option maxRecDepth 100000 in
theorem DX7_init_ok : ∀ q ∈ DX7_init, decode cX7_init q.1 = .ok q.2 := ck_ok (by decide +kernel)
end Ug01codeL
