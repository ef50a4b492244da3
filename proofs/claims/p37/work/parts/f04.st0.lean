section Uf04st0
/-! a new object of the class holds the first state -/
def slI0 : List (List Nat) := [[0], [1], [2], [3], [4], [5]]
def rw0 : List (List Nat) := [[0], [1], [2], [3], [4], [5], [6], [7]]
def st0 : ST := (slI0, [rw0, rw0, rw0], 0, 0)
theorem sl0_get : ∀ j, j < 6 → slI0[j]? = some [j] := by decide
theorem rw0_get : ∀ j, j < 8 → rw0[j]? = some [j] := by decide
theorem st0_ok : StO st0 := ⟨rfl, fun z hz => by
  obtain ⟨j, hj⟩ := List.getElem?_of_mem hz
  have h6 : j < 6 := (List.getElem?_eq_some_iff.mp hj).1
  have hj' : slI0[j]? = some z := hj
  rw [sl0_get j h6] at hj'
  cases hj'
  exact ⟨TW.name (by omega), Nat.le_of_ble_eq_true rfl⟩, rfl, fun rows hr => by
  have hr' : rows ∈ [rw0, rw0, rw0] := hr
  have e : rows = rw0 := by simpa using hr'
  rw [e]
  exact AO_none⟩
theorem exBd : ∀ xs : List Nat, ∃ M, ∀ x ∈ xs, x < M
  | [] => ⟨0, fun x hx => by cases hx⟩
  | y :: r => by
    obtain ⟨M, hM⟩ := exBd r
    refine ⟨M + y + 1, fun x hx => ?_⟩
    rcases List.mem_cons.mp hx with rfl | hx
    · omega
    · have := hM x hx
      omega
def sgI (i : Nat) : Nat := if i < 30 then i + 22 else i - 30
def piI (j : Nat) : Nat := [0, 3, 4, 5, 1, 2, 6, 7, 8, 9].getD j 0
theorem piI_ok : ∀ j, j < 10 → piI j < 10 ∧ ∀ i, i < 10 → piI i = piI j → i = j := by decide
theorem nd_getD {xs : List Nat} (h : xs.Nodup) {i j : Nat} (hi : i < xs.length) (hj : j < xs.length) (e : xs.getD i 0 = xs.getD j 0) : i = j := by
  rw [List.getD_eq_getElem?_getD, List.getD_eq_getElem?_getD, List.getElem?_eq_getElem hi, List.getElem?_eq_getElem hj] at e
  exact (List.getElem_inj h).mp e
theorem mem_getD {xs : List Nat} {i : Nat} (hi : i < xs.length) : xs.getD i 0 ∈ xs := by
  rw [List.getD_eq_getElem?_getD, List.getElem?_eq_getElem hi]
  exact List.getElem_mem hi
theorem T4_get {T : List T4} {i : Nat} {x : T4} (h : T[i]? = some x) : (T.map (fun t => t.1)).getD i 0 = x.1 ∧ (T.map (fun t => t.2.1)).getD i 0 = x.2.1 := by
  rw [List.getD_eq_getElem?_getD, List.getD_eq_getElem?_getD, List.getElem?_map, List.getElem?_map, h]
  exact ⟨rfl, rfl⟩
/-- terms and rows that are apart make the class's layout -/
theorem KL_lay {ex : Nat → Prop} {h h' : AH} {T : List T4} {R : List (Nat × Nat)} (K : KL ex h h' T R) (hT : T.length = 52) (hR : R.length = 10) : ∃ B Q : Nat → Nat, LYO B Q ∧ (∀ i x, i < 52 → T[sgI i]? = some x → B i = x.1 ∧ Q i = x.2.1) ∧ ∀ j x, j < 10 → R[piI j]? = some x → Q (60 + j) = x.1 := by
  obtain ⟨k1, k2, k3, k4, k5, k6, k7⟩ := K
  obtain ⟨M, hM⟩ := exBd (T.map (fun t => t.2.1) ++ R.map (fun r => r.1))
  have l1 : (T.map (fun t => t.1)).length = 52 := by rw [List.length_map]; exact hT
  have l2 : (T.map (fun t => t.2.1)).length = 52 := by rw [List.length_map]; exact hT
  have l3 : (R.map (fun r => r.1)).length = 10 := by rw [List.length_map]; exact hR
  have sg : ∀ i, i < 52 → sgI i < 52 := fun i hi => by unfold sgI; split <;> omega
  have sgi : ∀ i j, i < 52 → j < 52 → sgI i = sgI j → i = j := fun i j hi hj e => by
    unfold sgI at e
    split at e <;> split at e <;> omega
  refine ⟨fun i => (T.map (fun t => t.1)).getD (sgI i) 0, fun i => if i < 52 then (T.map (fun t => t.2.1)).getD (sgI i) 0 else if i < 60 then M + i else (R.map (fun r => r.1)).getD (piI (i - 60)) 0, ⟨fun i j hi hj e => ?_, fun i j hi hj e => ?_⟩, fun i x hi hx => ?_, fun j x hj hx => ?_⟩
  · exact sgi i j hi hj (nd_getD k2 (by rw [l1]; exact sg i hi) (by rw [l1]; exact sg j hj) e)
  · have mt : ∀ i, i < 52 → (T.map (fun t => t.2.1)).getD (sgI i) 0 < M := fun i hi => hM _ (List.mem_append_left _ (mem_getD (by rw [l2]; exact sg i hi)))
    have mr : ∀ i, 60 ≤ i → i < 70 → (R.map (fun r => r.1)).getD (piI (i - 60)) 0 < M := fun i h1 h2 => hM _ (List.mem_append_right _ (mem_getD (by rw [l3]; exact (piI_ok _ (by omega)).1)))
    have ap : ∀ i j, i < 52 → 60 ≤ j → j < 70 → (T.map (fun t => t.2.1)).getD (sgI i) 0 ≠ (R.map (fun r => r.1)).getD (piI (j - 60)) 0 := fun i j hi h1 h2 z => by
      obtain ⟨t, ht, e1⟩ := List.mem_map.mp (mem_getD (xs := T.map (fun t => t.2.1)) (i := sgI i) (by rw [l2]; exact sg i hi))
      obtain ⟨r, hr, e2⟩ := List.mem_map.mp (mem_getD (xs := R.map (fun r => r.1)) (i := piI (j - 60)) (by rw [l3]; exact (piI_ok _ (by omega)).1))
      exact k5 t ht r hr (by rw [e1, e2]; exact z)
    dsimp only at e
    by_cases i1 : i < 52
    · rw [if_pos i1] at e
      have m1 := mt i i1
      by_cases j1 : j < 52
      · rw [if_pos j1] at e
        exact sgi i j i1 j1 (nd_getD k3 (by rw [l2]; exact sg i i1) (by rw [l2]; exact sg j j1) e)
      · rw [if_neg j1] at e
        by_cases j2 : j < 60
        · rw [if_pos j2] at e
          omega
        · rw [if_neg j2] at e
          exact absurd e (ap i j i1 (by omega) hj)
    · rw [if_neg i1] at e
      by_cases i2 : i < 60
      · rw [if_pos i2] at e
        by_cases j1 : j < 52
        · rw [if_pos j1] at e
          have := mt j j1
          omega
        · rw [if_neg j1] at e
          by_cases j2 : j < 60
          · rw [if_pos j2] at e
            omega
          · rw [if_neg j2] at e
            have := mr j (by omega) hj
            omega
      · rw [if_neg i2] at e
        have m1 := mr i (by omega) hi
        by_cases j1 : j < 52
        · rw [if_pos j1] at e
          exact absurd e.symm (ap j i j1 (by omega) hi)
        · rw [if_neg j1] at e
          by_cases j2 : j < 60
          · rw [if_pos j2] at e
            omega
          · rw [if_neg j2] at e
            have e1 := nd_getD k4 (by rw [l3]; exact (piI_ok (i - 60) (by omega)).1) (by rw [l3]; exact (piI_ok (j - 60) (by omega)).1) e
            have := (piI_ok (j - 60) (by omega)).2 (i - 60) (by omega) e1
            omega
  · dsimp only
    rw [if_pos hi]
    exact T4_get hx
  · dsimp only
    rw [if_neg (by omega), if_neg (by omega), Nat.add_sub_cancel_left, List.getD_eq_getElem?_getD, List.getElem?_map, hx]
    rfl
theorem rg_eq {B : Nat → Nat} {f n : Nat} {xs : List T4} (hl : xs.length = n) (h : ∀ i x, i < n → xs[i]? = some x → B (f + i) = x.1) : xs.map (fun t => t.1) = rgB B f n := by
  refine List.ext_getElem? (fun i => ?_)
  rcases Nat.lt_or_ge i n with c | c
  · obtain ⟨x, hx⟩ : ∃ x, xs[i]? = some x := ⟨_, List.getElem?_eq_getElem (by omega)⟩
    rw [List.getElem?_map, hx, rgB_get B f c, h i x c hx]
    rfl
  · rw [List.getElem?_eq_none (by rw [List.length_map]; omega), List.getElem?_eq_none (by unfold rgB; rw [List.length_map, List.length_range]; exact c)]
theorem apR {l1 l2 : List T4} {k j : Nat} (h : l1.length = k) : (l1 ++ l2)[k + j]? = l2[j]? := by
  rw [← h, List.getElem?_append_right (Nat.le_add_right _ _), Nat.add_sub_cancel_left]
theorem apL {l1 l2 : List T4} {j : Nat} (h : j < l1.length) : (l1 ++ l2)[j]? = l1[j]? := List.getElem?_append_left h
set_option maxHeartbeats 4000000 in
theorem new6_st {o : Nat} {h h' : AH} {S A u1 u2 u3 u4 u5 u6 u7 u8 u9 q1 q2 q3 q4 ar5 ar6 b7 c7 r7 p7 d7 e7 b8 c8 r8 s8 f8 p8 d8 e8 p9 d9 e9 : Nat} {t5 t6 tS : List T4} {N : List (Nat × Nat × List T4)} (ho : h' o = some (8, [.ref S, .ref A, .int 0, .int 0, .int 0, .ref u1, .ref u2, .ref u3, .ref u4, .ref u5, .ref u6, .ref u7, .ref u8, .ref u9])) (hS : h' S = some (103, (tS.map (fun t => t.1)).map Value.ref)) (hA : h' A = some (104, (N.map (fun x => x.1)).map Value.ref)) (hT : Tn8 6 tS) (hN : N.length = 3)
    (OO : OB (fun a => a = o) h' ((((((((([] ++ []) ++ []) ++ []) ++ []) ++ []) ++ []) ++ [(u7, (6, [.ref b7, .ref r7, .ref p7, .int 0, .int 0])), (p7, (4, [.ref d7, .ref e7, vI 0]))]) ++ [(u8, (3, [.ref b8, .ref r8, .ref s8, .ref f8, .ref p8])), (p8, (4, [.ref d8, .ref e8, vI 0]))]) ++ [(u9, (5, [.ref p9])), (p9, (4, [.ref d9, .ref e9, vI 0]))]))
    (LL : AL (fun a => a = o) h' (((((((((([] ++ []) ++ []) ++ []) ++ []) ++ [(u5, ar5, t5)]) ++ [(u6, ar6, t6)]) ++ []) ++ []) ++ []) ++ N))
    (K : KL (fun a => a = o) h h' ((((((((((([] ++ [(u1, q1, 16, ([], false))]) ++ [(u2, q2, 16, ([], false))]) ++ [(u3, q3, 256, ([], false))]) ++ [(u4, q4, 256, ([], false))]) ++ t5) ++ t6) ++ [(b7, c7, 32, ([], false))]) ++ [(b8, c8, 32, ([], false))]) ++ []) ++ tS) ++ N.flatMap (fun x => x.2.2)) ((((((((([] ++ []) ++ []) ++ []) ++ []) ++ []) ++ []) ++ [(r7, 8), (d7, 128), (e7, 128)]) ++ [(r8, 32), (s8, 32), (f8, 8), (d8, 128), (e8, 128)]) ++ [(d9, 128), (e9, 128)])) :
    ∃ B Q P : Nat → Nat, LYO B Q ∧ StC B Q P o 0 h' st0 ∧ ∀ (a : Nat) (c : AC), a ≠ o → h a = some c → h' a = some c := by
  obtain ⟨y0, y1, y2, rfl⟩ : ∃ y0 y1 y2, N = [y0, y1, y2] := by
    match N, hN with
    | [y0, y1, y2], _ => exact ⟨y0, y1, y2, rfl⟩
  obtain ⟨a0, x0, n0⟩ := y0
  obtain ⟨a1, x1, n1⟩ := y1
  obtain ⟨a2, x2, n2⟩ := y2
  have L5 := LL (u5, ar5, t5) (by simp)
  have L6 := LL (u6, ar6, t6) (by simp)
  have M0 := LL (a0, x0, n0) (by simp)
  have M1 := LL (a1, x1, n1) (by simp)
  have M2 := LL (a2, x2, n2) (by simp)
  have O7 := (OO (u7, (6, [.ref b7, .ref r7, .ref p7, .int 0, .int 0])) (by simp)).2
  have O7p := (OO (p7, (4, [.ref d7, .ref e7, vI 0])) (by simp)).2
  have O8 := (OO (u8, (3, [.ref b8, .ref r8, .ref s8, .ref f8, .ref p8])) (by simp)).2
  have O8p := (OO (p8, (4, [.ref d8, .ref e8, vI 0])) (by simp)).2
  have O9 := (OO (u9, (5, [.ref p9])) (by simp)).2
  have O9p := (OO (p9, (4, [.ref d9, .ref e9, vI 0])) (by simp)).2
  have Hfr := K.1
  have eT : ((((((((((([] ++ [(u1, q1, 16, ([], false))]) ++ [(u2, q2, 16, ([], false))]) ++ [(u3, q3, 256, ([], false))]) ++ [(u4, q4, 256, ([], false))]) ++ t5) ++ t6) ++ [(b7, c7, 32, ([], false))]) ++ [(b8, c8, 32, ([], false))]) ++ []) ++ tS) ++ List.flatMap (fun x : Nat × Nat × List T4 => x.2.2) [(a0, x0, n0), (a1, x1, n1), (a2, x2, n2)] : List T4) = [(u1, q1, 16, ([], false)), (u2, q2, 16, ([], false)), (u3, q3, 256, ([], false)), (u4, q4, 256, ([], false))] ++ (t5 ++ (t6 ++ ([(b7, c7, 32, ([], false)), (b8, c8, 32, ([], false))] ++ (tS ++ (n0 ++ (n1 ++ n2)))))) := by simp
  have eR : (((((((((([] ++ []) ++ []) ++ []) ++ []) ++ []) ++ []) ++ [(r7, 8), (d7, 128), (e7, 128)]) ++ [(r8, 32), (s8, 32), (f8, 8), (d8, 128), (e8, 128)]) ++ [(d9, 128), (e9, 128)]) : List (Nat × Nat)) = [(r7, 8), (d7, 128), (e7, 128), (r8, 32), (s8, 32), (f8, 8), (d8, 128), (e8, 128), (d9, 128), (e9, 128)] := rfl
  rw [eT, eR] at K
  have g5 : t5.length = 8 := L5.1.1
  have g6 : t6.length = 8 := L6.1.1
  have gS : tS.length = 6 := hT.1
  have m0 : n0.length = 8 := M0.1.1
  have m1 : n1.length = 8 := M1.1.1
  have m2 : n2.length = 8 := M2.1.1
  have hTl : ([(u1, q1, 16, ([], false)), (u2, q2, 16, ([], false)), (u3, q3, 256, ([], false)), (u4, q4, 256, ([], false))] ++ (t5 ++ (t6 ++ ([(b7, c7, 32, ([], false)), (b8, c8, 32, ([], false))] ++ (tS ++ (n0 ++ (n1 ++ n2)))))) : List T4).length = 52 := by
    simp only [List.length_append, List.length_cons, List.length_nil, g5, g6, gS, m0, m1, m2]
  obtain ⟨B, Q, Y, hB, hQ⟩ := KL_lay K hTl rfl
  generalize hTT : ([(u1, q1, 16, ([], false)), (u2, q2, 16, ([], false)), (u3, q3, 256, ([], false)), (u4, q4, 256, ([], false))] ++ (t5 ++ (t6 ++ ([(b7, c7, 32, ([], false)), (b8, c8, 32, ([], false))] ++ (tS ++ (n0 ++ (n1 ++ n2)))))) : List T4) = T at K hTl hB
  have w4 : ∀ j, T[4 + j]? = (t5 ++ (t6 ++ ([(b7, c7, 32, ([], false)), (b8, c8, 32, ([], false))] ++ (tS ++ (n0 ++ (n1 ++ n2))))))[j]? := fun j => by rw [← hTT]; exact apR rfl
  have w12 : ∀ j, T[12 + j]? = (t6 ++ ([(b7, c7, 32, ([], false)), (b8, c8, 32, ([], false))] ++ (tS ++ (n0 ++ (n1 ++ n2)))))[j]? := fun j => by rw [show 12 + j = 4 + (8 + j) by omega, w4]; exact apR g5
  have w20 : ∀ j, T[20 + j]? = ([(b7, c7, 32, ([], false)), (b8, c8, 32, ([], false))] ++ (tS ++ (n0 ++ (n1 ++ n2))))[j]? := fun j => by rw [show 20 + j = 12 + (8 + j) by omega, w12]; exact apR g6
  have w22 : ∀ j, T[22 + j]? = (tS ++ (n0 ++ (n1 ++ n2)))[j]? := fun j => by rw [show 22 + j = 20 + (2 + j) by omega, w20]; exact apR rfl
  have w28 : ∀ j, T[28 + j]? = (n0 ++ (n1 ++ n2))[j]? := fun j => by rw [show 28 + j = 22 + (6 + j) by omega, w22]; exact apR gS
  have w36 : ∀ j, T[36 + j]? = (n1 ++ n2)[j]? := fun j => by rw [show 36 + j = 28 + (8 + j) by omega, w28]; exact apR m0
  have w44 : ∀ j, T[44 + j]? = n2[j]? := fun j => by rw [show 44 + j = 36 + (8 + j) by omega, w36]; exact apR m1
  have v5 : ∀ j, j < 8 → T[4 + j]? = t5[j]? := fun j hj => by rw [w4]; exact apL (by omega)
  have v6 : ∀ j, j < 8 → T[12 + j]? = t6[j]? := fun j hj => by rw [w12]; exact apL (by omega)
  have vS : ∀ j, j < 6 → T[22 + j]? = tS[j]? := fun j hj => by rw [w22]; exact apL (by omega)
  have v0 : ∀ j, j < 8 → T[28 + j]? = n0[j]? := fun j hj => by rw [w28]; exact apL (by omega)
  have v1 : ∀ j, j < 8 → T[36 + j]? = n1[j]? := fun j hj => by rw [w36]; exact apL (by omega)
  have z0 : T[0]? = some (u1, q1, 16, ([], false)) := by rw [← hTT]; rfl
  have z1 : T[1]? = some (u2, q2, 16, ([], false)) := by rw [← hTT]; rfl
  have z2 : T[2]? = some (u3, q3, 256, ([], false)) := by rw [← hTT]; rfl
  have z3 : T[3]? = some (u4, q4, 256, ([], false)) := by rw [← hTT]; rfl
  have z20 : T[20]? = some (b7, c7, 32, ([], false)) := w20 0
  have z21 : T[21]? = some (b8, c8, 32, ([], false)) := w20 1
  have dS : ∀ j, j < 6 → ∃ b q, T[sgI j]? = some (b, q, 16, ([nI j], false)) := fun j hj => by
    obtain ⟨b, q, e⟩ := hT.2 j hj
    exact ⟨b, q, by rw [show sgI j = 22 + j by unfold sgI; rw [if_pos (by omega)]; omega, vS j hj]; exact e⟩
  have dN : ∀ k, k < 3 → ∀ j, j < 8 → ∃ b q, T[sgI (6 + 8 * k + j)]? = some (b, q, 16, ([nI j], false)) := fun k hk j hj => by
    have es : sgI (6 + 8 * k + j) = 28 + 8 * k + j := by unfold sgI; rw [if_pos (by omega)]; omega
    rw [es]
    match k, hk with
    | 0, _ => obtain ⟨b, q, e⟩ := M0.1.2 j hj; exact ⟨b, q, by rw [show 28 + 8 * 0 + j = 28 + j by omega, v0 j hj]; exact e⟩
    | 1, _ => obtain ⟨b, q, e⟩ := M1.1.2 j hj; exact ⟨b, q, by rw [show 28 + 8 * 1 + j = 36 + j by omega, v1 j hj]; exact e⟩
    | 2, _ => obtain ⟨b, q, e⟩ := M2.1.2 j hj; exact ⟨b, q, by rw [show 28 + 8 * 2 + j = 44 + j by omega, w44]; exact e⟩
  have dX : ∀ i, i < 52 → ∃ x : T4, T[sgI i]? = some x ∧ x.2.2.1 = rmI i := fun i hi => by
    rcases Nat.lt_or_ge i 6 with c | c
    · obtain ⟨b, q, e⟩ := dS i c
      exact ⟨_, e, by unfold rmI; rw [if_pos (by omega)]⟩
    · rcases Nat.lt_or_ge i 30 with c2 | c2
      · obtain ⟨b, q, e⟩ := dN ((i - 6) / 8) (by omega) ((i - 6) % 8) (by omega)
        rw [show 6 + 8 * ((i - 6) / 8) + (i - 6) % 8 = i by omega] at e
        exact ⟨_, e, by unfold rmI; rw [if_pos (by omega)]⟩
      · have es : sgI i = i - 30 := by unfold sgI; rw [if_neg (by omega)]
        rw [es]
        rcases Nat.lt_or_ge i 34 with c3 | c3
        · rcases (show i = 30 ∨ i = 31 ∨ i = 32 ∨ i = 33 by omega) with rfl | rfl | rfl | rfl
          · exact ⟨_, z0, rfl⟩
          · exact ⟨_, z1, rfl⟩
          · exact ⟨_, z2, rfl⟩
          · exact ⟨_, z3, rfl⟩
        · have r16 : i < 50 → (16 : Nat) = rmI i := fun h => by unfold rmI; rw [if_neg (by omega), if_neg (by omega), if_pos h]
          rcases Nat.lt_or_ge i 42 with c4 | c4
          · obtain ⟨b, q, e⟩ := L5.1.2 (i - 34) (by omega)
            exact ⟨(b, q, 16, ([nI (i - 34)], false)), by rw [show i - 30 = 4 + (i - 34) by omega, v5 _ (by omega)]; exact e, r16 (by omega)⟩
          · rcases Nat.lt_or_ge i 50 with c5 | c5
            · obtain ⟨b, q, e⟩ := L6.1.2 (i - 42) (by omega)
              exact ⟨(b, q, 16, ([nI (i - 42)], false)), by rw [show i - 30 = 12 + (i - 42) by omega, v6 _ (by omega)]; exact e, r16 (by omega)⟩
            · rcases (show i = 50 ∨ i = 51 by omega) with rfl | rfl
              · exact ⟨_, z20, rfl⟩
              · exact ⟨_, z21, rfl⟩
  have TSx : TS B Q h' (fun i => ((T[sgI i]?).map (fun t => t.2.2.2)).getD ([], false)) := fun i hi => by
    obtain ⟨x, hx, hr⟩ := dX i hi
    obtain ⟨eb, eq⟩ := hB i x hi hx
    have tm := (K.2.2.2.2.2.1 x (List.mem_of_getElem? hx)).2.2.2.2
    dsimp only
    rw [hx, eb, eq, ← hr]
    exact tm
  have b30 : B 30 = u1 := (hB 30 _ (by decide) z0).1
  have b31 : B 31 = u2 := (hB 31 _ (by decide) z1).1
  have b32 : B 32 = u3 := (hB 32 _ (by decide) z2).1
  have b33 : B 33 = u4 := (hB 33 _ (by decide) z3).1
  have b50 : B 50 = b7 := (hB 50 _ (by decide) z20).1
  have b51 : B 51 = b8 := (hB 51 _ (by decide) z21).1
  have q60 : Q 60 = r7 := hQ 0 _ (by decide) rfl
  have q61 : Q 61 = r8 := hQ 1 _ (by decide) rfl
  have q62 : Q 62 = s8 := hQ 2 _ (by decide) rfl
  have q63 : Q 63 = f8 := hQ 3 _ (by decide) rfl
  have q64 : Q 64 = d7 := hQ 4 _ (by decide) rfl
  have q65 : Q 65 = e7 := hQ 5 _ (by decide) rfl
  have q66 : Q 66 = d8 := hQ 6 _ (by decide) rfl
  have q67 : Q 67 = e8 := hQ 7 _ (by decide) rfl
  have q68 : Q 68 = d9 := hQ 8 _ (by decide) rfl
  have q69 : Q 69 = e9 := hQ 9 _ (by decide) rfl
  have eS : tS.map (fun t => t.1) = rgB B 0 6 := rg_eq gS (fun i x hi hx => by rw [Nat.zero_add]; exact (hB i x (by omega) (by rw [show sgI i = 22 + i by unfold sgI; rw [if_pos (by omega)]; omega, vS i hi]; exact hx)).1)
  have e0 : n0.map (fun t => t.1) = rgB B (6 + 8 * 0) 8 := rg_eq m0 (fun i x hi hx => (hB _ x (by omega) (by rw [show sgI (6 + 8 * 0 + i) = 28 + i by unfold sgI; rw [if_pos (by omega)]; omega, v0 i hi]; exact hx)).1)
  have e1 : n1.map (fun t => t.1) = rgB B (6 + 8 * 1) 8 := rg_eq m1 (fun i x hi hx => (hB _ x (by omega) (by rw [show sgI (6 + 8 * 1 + i) = 36 + i by unfold sgI; rw [if_pos (by omega)]; omega, v1 i hi]; exact hx)).1)
  have e2 : n2.map (fun t => t.1) = rgB B (6 + 8 * 2) 8 := rg_eq m2 (fun i x hi hx => (hB _ x (by omega) (by rw [show sgI (6 + 8 * 2 + i) = 44 + i by unfold sgI; rw [if_pos (by omega)]; omega, w44]; exact hx)).1)
  have e5 : t5.map (fun t => t.1) = rgB B 34 8 := rg_eq g5 (fun i x hi hx => (hB _ x (by omega) (by rw [show sgI (34 + i) = 4 + i by unfold sgI; rw [if_neg (by omega)]; omega, v5 i hi]; exact hx)).1)
  have e6 : t6.map (fun t => t.1) = rgB B 42 8 := rg_eq g6 (fun i x hi hx => (hB _ x (by omega) (by rw [show sgI (42 + i) = 12 + i by unfold sgI; rw [if_neg (by omega)]; omega, v6 i hi]; exact hx)).1)
  have rws : ∀ x ∈ ([(r7, 8), (d7, 128), (e7, 128), (r8, 32), (s8, 32), (f8, 8), (d8, 128), (e8, 128), (d9, 128), (e9, 128)] : List (Nat × Nat)), ∃ xs : List Int32, h' x.1 = some (107, xs.map Value.int) ∧ xs.length = x.2 := fun x hx => (K.2.2.2.2.2.2 x hx).2.2
  refine ⟨B, Q, fun i => [S, A, u5, u6, u7, u8, u9, a0, a1, a2, 0, 0, 0, p7, p8, p9].getD i 0, Y, ⟨_, ⟨TSx, ?_, ⟨?_, ?_, fun k hk => ?_, ?_, ?_⟩, ⟨0, 0, ?_⟩, ?_, ?_, fun k hk => ?_, fun j h1 h2 => ?_⟩, ⟨fun j hj => ?_, fun k hk => ?_⟩, st0_ok⟩, Hfr⟩
  · show h' o = some (8, [.ref S, .ref A, .int 0, .int 0, .int 0, .ref (B 30), .ref (B 31), .ref (B 32), .ref (B 33), .ref u5, .ref u6, .ref u7, .ref u8, .ref u9])
    rw [b30, b31, b32, b33]
    exact ho
  · show h' S = _
    rw [← eS]
    exact hS
  · show h' A = some (104, ([a0, a1, a2] : List Nat).map Value.ref)
    exact hA
  · match k, hk with
    | 0, _ => exact ⟨by decide, x0, M0.2.2.2.1, by rw [← e0]; exact M0.2.2.2.2⟩
    | 1, _ => exact ⟨by decide, x1, M1.2.2.2.1, by rw [← e1]; exact M1.2.2.2.2⟩
    | 2, _ => exact ⟨by decide, x2, M2.2.2.2.1, by rw [← e2]; exact M2.2.2.2.2⟩
  · exact ⟨by decide, ar5, L5.2.2.2.1, by rw [← e5]; exact L5.2.2.2.2⟩
  · exact ⟨by decide, ar6, L6.2.2.2.1, by rw [← e6]; exact L6.2.2.2.2⟩
  · show h' u7 = some (6, [.ref (B 50), .ref (Q 60), .ref p7, .int 0, .int 0])
    rw [b50, q60]
    exact O7
  · show h' u8 = some (3, [.ref (B 51), .ref (Q 61), .ref (Q 62), .ref (Q 63), .ref p8])
    rw [b51, q61, q62, q63]
    exact O8
  · exact O9
  · match k, hk with
    | 0, _ => exact ⟨0, by decide, by show h' p7 = some (4, [.ref (Q 64), .ref (Q 65), vI 0]); rw [q64, q65]; exact O7p⟩
    | 1, _ => exact ⟨0, by decide, by show h' p8 = some (4, [.ref (Q 66), .ref (Q 67), vI 0]); rw [q66, q67]; exact O8p⟩
    | 2, _ => exact ⟨0, by decide, by show h' p9 = some (4, [.ref (Q 68), .ref (Q 69), vI 0]); rw [q68, q69]; exact O9p⟩
  · rcases (show j = 60 ∨ j = 61 ∨ j = 62 ∨ j = 63 ∨ j = 64 ∨ j = 65 ∨ j = 66 ∨ j = 67 ∨ j = 68 ∨ j = 69 by omega) with rfl | rfl | rfl | rfl | rfl | rfl | rfl | rfl | rfl | rfl
    · rw [q60]; exact rws (r7, 8) (by simp)
    · rw [q61]; exact rws (r8, 32) (by simp)
    · rw [q62]; exact rws (s8, 32) (by simp)
    · rw [q63]; exact rws (f8, 8) (by simp)
    · rw [q64]; exact rws (d7, 128) (by simp)
    · rw [q65]; exact rws (e7, 128) (by simp)
    · rw [q66]; exact rws (d8, 128) (by simp)
    · rw [q67]; exact rws (e8, 128) (by simp)
    · rw [q68]; exact rws (d9, 128) (by simp)
    · rw [q69]; exact rws (e9, 128) (by simp)
  · obtain ⟨b, q, e⟩ := dS j hj
    exact ⟨[j], sl0_get j hj, by dsimp only; rw [e]; rfl⟩
  · refine ⟨rw0, ?_, rfl, fun n hn => ?_⟩
    · match k, hk with
      | 0, _ => rfl
      | 1, _ => rfl
      | 2, _ => rfl
    · obtain ⟨b, q, e⟩ := dN k hk n hn
      exact ⟨[n], rw0_get n hn, by dsimp only; rw [e]; rfl, TW.name hn, Nat.le_of_ble_eq_true rfl⟩
end Uf04st0
section Uf05ref0
/-! the reference's constructor, exactly (printed by wip/p20/genN4.py) -/
section F05
variable {la : Launch} {D : va_G} {cA : Nat → ClassId} {B0 pa : Nat} {o : Nat}
set_option maxHeartbeats 8000000 in
theorem RF.c_init10 (h : AH) (ho : h o = some (12, [.null, .null, .int 0, .int 0, .int 0, .int 0])) : CT la D cA B0 pa yX10_init cX10_init 2 none (rmD 2 35 63) [.ref o] h (fun v h' => v = none ∧ (∃ S A, h S = none ∧ h A = none ∧ MD h' o S A st0.1 st0.2.1 0 0 0 0) ∧ Fo o h h') := by
  refine CT_of (by decide +kernel) (Nat.le_of_ble_eq_true rfl) ?_
  intro p e s m args below meth c X E hr hlk hnm
  have dk : ∀ {pc : Nat} {q : Instr × Nat}, lkd DX10_init pc = some q → decode cX10_init pc = .ok q := lkd_ok DX10_init_ok
  repeat refine fst1_ok X (dk rfl) rfl ?_
  refine obj_ok X ml10_obj (dk rfl) (Nat.le_of_ble_eq_true rfl) (Nat.le_of_ble_eq_true rfl) (Nat.le_of_ble_eq_true rfl) ?_
  repeat refine fst1_ok X (dk rfl) rfl ?_
  refine newR_ok (N := 6) (kd := 105) X E (by decide) cl10_9 (by decide) (dk rfl) (by decide) (by decide) (fun S hS hBS => ?_)
  have XS := Ext.new hS ((105, List.replicate 6 Value.null) : AC)
  have hoS : o ≠ S := fun z => by rw [← z, ho] at hS; cases hS
  refine putf_ok X flX10_11 ftX10_0 (Or.inr ⟨by rw [hnm]; rfl, RX10, TX10, 6, rfl, rfl⟩) rfl rfl (dk rfl) (XS _ _ ho) (Nat.le_of_ble_eq_true rfl) ?_
  have ho1 : hup (hup h S (105, List.replicate 6 Value.null)) o (12, [Value.null, .null, .int 0, .int 0, .int 0, .int 0].set 0 (.ref S)) o = some (12, [Value.ref S, .null, .int 0, .int 0, .int 0, .int 0]) := hup_self _ _ _
  have hS1 : hup (hup h S (105, List.replicate 6 Value.null)) o (12, [Value.null, .null, .int 0, .int 0, .int 0, .int 0].set 0 (.ref S)) S = some (105, filR [] 6) := by rw [hup_ne _ _ hoS.symm, hup_self, filR_0]
  have F1 : Fo o h (hup (hup h S (105, List.replicate 6 Value.null)) o (12, [Value.null, .null, .int 0, .int 0, .int 0, .int 0].set 0 (.ref S))) := fun b c hb e => by rw [hup_ne _ _ hb]; exact XS _ _ e
  generalize hup (hup h S (105, List.replicate 6 Value.null)) o (12, [Value.null, .null, .int 0, .int 0, .int 0, .int 0].set 0 (.ref S)) = h1 at ho1 hS1 F1
  repeat refine fst1_ok X (dk rfl) rfl ?_
  refine newR_ok (N := 3) (kd := 106) X E (by decide) cl10_15 (by decide) (dk rfl) (Nat.le_of_ble_eq_true rfl) (Nat.le_of_ble_eq_true rfl) (fun A hA hBA => ?_)
  have XA := Ext.new hA ((106, List.replicate 3 Value.null) : AC)
  have hoA : o ≠ A := fun z => by rw [← z, ho1] at hA; cases hA
  have hSA : S ≠ A := fun z => by rw [← z, hS1] at hA; cases hA
  refine putf_ok X flX10_16 ftX10_1 (Or.inr ⟨by rw [hnm]; rfl, RX10, TX10, 6, rfl, rfl⟩) rfl rfl (dk rfl) (XA _ _ ho1) (Nat.le_of_ble_eq_true rfl) ?_
  have ho2 : hup (hup h1 A (106, List.replicate 3 Value.null)) o (12, [Value.ref S, .null, .int 0, .int 0, .int 0, .int 0].set 1 (.ref A)) o = some (12, [Value.ref S, .ref A, .int 0, .int 0, .int 0, .int 0]) := hup_self _ _ _
  have hA2 : hup (hup h1 A (106, List.replicate 3 Value.null)) o (12, [Value.ref S, .null, .int 0, .int 0, .int 0, .int 0].set 1 (.ref A)) A = some (106, filR [] 3) := by rw [hup_ne _ _ hoA.symm, hup_self, filR_0]
  have hS2 : hup (hup h1 A (106, List.replicate 3 Value.null)) o (12, [Value.ref S, .null, .int 0, .int 0, .int 0, .int 0].set 1 (.ref A)) S = some (105, filR [] 6) := by rw [hup_ne _ _ hoS.symm]; exact XA _ _ hS1
  have F2 : Fo o h (hup (hup h1 A (106, List.replicate 3 Value.null)) o (12, [Value.ref S, .null, .int 0, .int 0, .int 0, .int 0].set 1 (.ref A))) := fun b c hb e => by rw [hup_ne _ _ hb]; exact XA _ _ (F1 b c hb e)
  have hAn : h A = none := by
    cases hz : h A with
    | none => rfl
    | some c => have := F1 A c hoA.symm hz; rw [hA] at this; cases this
  generalize hup (hup h1 A (106, List.replicate 3 Value.null)) o (12, [Value.ref S, .null, .int 0, .int 0, .int 0, .int 0].set 1 (.ref A)) = h2 at ho2 hA2 hS2 F2
  -- the answers
  have loopA : ∀ (d i : Nat), d = 3 - i → i ≤ 3 → ∀ (hh : AH) (as : List Nat) (l : List (Nat × Value)), lsel l [1, 0] = [(1, vI i), (0, .ref o)] → as.length = i → hh o = some (12, [Value.ref S, .ref A, .int 0, .int 0, .int 0, .int 0]) → Ans hh S [[0], [1], [2], [3], [4], [5]] → hh A = some (106, filR as 3) → S ∉ as → (∀ k b : Nat, as[k]? = some b → Ans hh b [[0], [1], [2], [3], [4], [5], [6], [7]]) → Fo o h hh →
      WR p la e (rmD 2 35 63) s m args below meth c D cA B0 2 (fun v h' => v = none ∧ (∃ S A, h S = none ∧ h A = none ∧ MD h' o S A st0.1 st0.2.1 0 0 0 0) ∧ Fo o h h') 47 l [] hh (8 + 9 * i) (15 + 16 * i) := by
    intro d
    induction d with
    | zero =>
      intro i hd hi hh as l hl hla hoh hSh hAh hSn has FF
      have hi2 : i = 3 := by omega
      subst hi2
      refine WS.sel [1, 0] hl ?_
      repeat refine fst1_ok X (dk rfl) rfl ?_
      refine br_ok X (dk rfl) rfl (show ((49 : Nat) : Int) + 18 = ((67 : Nat) : Int) from rfl) (fun _ => ?_) (fun c1 => absurd (by decide) c1)
      refine retv_ok X hr hlk (dk rfl) ⟨rfl, ⟨S, A, hS, hAn, hoh, hSh, rfl, fun r hr => ?_, as, hla, rfl, by rw [hAh, ← hla, filR_end], hSn, fun k b rows e1 e2 => ?_⟩, FF⟩ (Nat.le_of_ble_eq_true rfl) (Nat.le_of_ble_eq_true rfl)
      · have hr : r ∈ ([[0], [1], [2], [3], [4], [5]] : List (List Nat)) := hr
        simp only [List.mem_cons, List.not_mem_nil, or_false] at hr
        rcases hr with rfl | rfl | rfl | rfl | rfl | rfl <;> exact ⟨TW.name (by omega), by decide⟩
      · have e2 : (List.replicate 3 rw0)[k]? = some rows := e2
        rw [List.getElem?_replicate] at e2
        split at e2
        · cases e2; exact ⟨has k b e1, AO_none⟩
        · cases e2
    | succ d ih =>
      intro i hd hi hh as l hl hla hoh hSh hAh hSn has FF
      have f2 : Value.int (nI i + Int32.ofInt 1) = vI (i + 1) := congrArg Value.int (by rw [nI_1', nI_add])
      refine WS.sel [1, 0] hl ?_
      repeat refine fst1_ok X (dk rfl) rfl ?_
      refine br_ok X (dk rfl) rfl (show ((49 : Nat) : Int) + 18 = ((67 : Nat) : Int) from rfl) (fun c1 => absurd c1 (nI_ge (a := i) (b := 3) (by omega) (by omega))) (fun _ => ?_)
      refine fst1_ok X (dk rfl) rfl ?_
      refine getf_ok X flX10_16 (dk rfl) hoh rfl ?_
      refine fst1_ok X (dk rfl) rfl ?_
      refine callS_ok (av := []) (r := [vI i, .ref A]) X E (c_none hh) lkX10_none mlX10_24 lsX10_none ⟨Nat.le_of_ble_eq_true rfl, Nat.le_of_ble_eq_true rfl⟩ ⟨by show 8 + 9 * i + 9 ≤ 35; omega, by show 15 + 16 * i + 16 ≤ 63; omega⟩ (Nat.le_of_ble_eq_true rfl) (dk rfl) ?_
      rintro v h3 ⟨N, rfl, hN, hBN, XN, nN⟩
      obtain ⟨vn, kn1⟩ := nN.kind
      obtain ⟨vS, kS⟩ := hSh.kind
      have hA3 := XN _ _ hAh
      refine sta_ok X (dk rfl) hA3 kn1 (by rw [filR_len (by omega)]; omega) (by rw [filR_len (by omega)]; omega) ?_
      rw [show (filR as 3).set i (.ref N) = filR (as ++ [N]) 3 by rw [← hla]; exact filR_set (by omega)]
      repeat refine fst1_ok X (dk rfl) rfl ?_
      refine br_ok X (dk rfl) rfl (show ((64 : Nat) : Int) + (-17) = ((47 : Nat) : Int) from rfl) (fun _ => ?_) (fun q => absurd trivial q)
      refine WS.widen (k' := 8 + 9 * (i + 1)) (n' := 15 + 16 * (i + 1)) (by show 8 + 9 * i + 9 ≤ 8 + 9 * (i + 1); omega) (by show 15 + 16 * i + 16 ≤ 15 + 16 * (i + 1); omega) ?_
      refine WS.sel (l' := [(1, vI (i + 1)), (0, .ref o)]) [1, 0] (by rw [← f2]; rfl) ?_
      have hAk : ∀ {b : Nat} {rows : List (List Nat)}, Ans h3 b rows → Ans (hup h3 A (106, filR (as ++ [N]) 3)) b rows := fun {b rows} H => by
        obtain ⟨vb, hb⟩ := H.kind
        exact H.hup (k_ne hA3 hb (by decide)) hA3 (by decide) _
      refine ih (i + 1) (by omega) (by omega) _ (as ++ [N]) _ rfl (by rw [List.length_append, hla]; rfl) (by rw [hup_ne _ _ (k_ne (XN _ _ hoh) hA3 (by decide))]; exact XN _ _ hoh) (hAk (hSh.ext XN)) (hup_self _ _ _) ?_ ?_ ?_
      · intro z
        rcases List.mem_append.mp z with q | q
        · exact hSn q
        · simp at q
          rw [← q, kS] at hN
          cases hN
      · intro k b hk
        rcases Nat.lt_or_ge k as.length with q | q
        · rw [List.getElem?_append_left q] at hk
          exact hAk ((has k b hk).ext XN)
        · have hk2 : k = as.length := by have := (List.getElem?_eq_some_iff.mp hk).1; rw [List.length_append, List.length_singleton] at this; omega
          rw [hk2, List.getElem?_concat_length] at hk
          cases hk
          exact hAk nN
      · intro b c hb e
        rw [hup_ne _ _ (fun z => by rw [z, hAn] at e; cases e)]
        exact XN _ _ (FF b c hb e)
  -- the slots
  have loopS : ∀ (d i : Nat), d = 6 - i → i ≤ 6 → ∀ (hh : AH) (as : List Nat) (l : List (Nat × Value)), lsel l [1, 0] = [(1, vI i), (0, .ref o)] → as.length = i → hh o = some (12, [Value.ref S, .ref A, .int 0, .int 0, .int 0, .int 0]) → hh S = some (105, filR as 6) → hh A = some (106, filR [] 3) → (∀ k b : Nat, as[k]? = some b → hh b = some (IA [k])) → Fo o h hh →
      WR p la e (rmD 2 35 63) s m args below meth c D cA B0 2 (fun v h' => v = none ∧ (∃ S A, h S = none ∧ h A = none ∧ MD h' o S A st0.1 st0.2.1 0 0 0 0) ∧ Fo o h h') 23 l [] hh (2 + i) (9 + i) := by
    intro d
    induction d with
    | zero =>
      intro i hd hi hh as l hl hla hoh hSh hAh has FF
      have hi2 : i = 6 := by omega
      subst hi2
      refine WS.sel [1, 0] hl ?_
      repeat refine fst1_ok X (dk rfl) rfl ?_
      refine br_ok X (dk rfl) rfl (show ((26 : Nat) : Int) + 19 = ((45 : Nat) : Int) from rfl) (fun _ => ?_) (fun c1 => absurd (by decide) c1)
      iterate 2 refine fst1_ok X (dk rfl) rfl ?_
      refine loopA 3 0 rfl (Nat.zero_le _) hh [] _ rfl rfl hoh ⟨as, hla, by rw [hSh, ← hla, filR_end], fun k a r e1 e2 => ?_⟩ hAh (by simp) (fun k b hk => by simp at hk) FF
      have h4 := has k a e1
      have hk6 : k < 6 := by rw [← hla]; exact (List.getElem?_eq_some_iff.mp e1).1
      have e3 : ([[0], [1], [2], [3], [4], [5]] : List (List Nat))[k]? = some [k] := by
        match k, hk6 with
        | 0, _ => rfl
        | 1, _ => rfl
        | 2, _ => rfl
        | 3, _ => rfl
        | 4, _ => rfl
        | 5, _ => rfl
      cases e2.symm.trans e3
      exact h4
    | succ d ih =>
      intro i hd hi hh as l hl hla hoh hSh hAh has FF
      have f2 : Value.int (nI i + Int32.ofInt 1) = vI (i + 1) := congrArg Value.int (by rw [nI_1', nI_add])
      refine WS.sel [1, 0] hl ?_
      repeat refine fst1_ok X (dk rfl) rfl ?_
      refine br_ok X (dk rfl) rfl (show ((26 : Nat) : Int) + 19 = ((45 : Nat) : Int) from rfl) (fun c1 => absurd c1 (nI_ge (a := i) (b := 6) (by omega) (by omega))) (fun _ => ?_)
      refine fst1_ok X (dk rfl) rfl ?_
      refine getf_ok X flX10_11 (dk rfl) hoh rfl ?_
      repeat refine fst1_ok X (dk rfl) rfl ?_
      refine callS_ok (av := [vI i]) (r := [vI i, .ref S]) X E (c_row hh i) lkX10_row mlX10_20 lsX10_row ⟨Nat.le_of_ble_eq_true rfl, Nat.le_of_ble_eq_true rfl⟩ ⟨by show 2 + i + 1 ≤ 35; omega, by show 9 + i + 1 ≤ 63; omega⟩ (Nat.le_of_ble_eq_true rfl) (dk rfl) ?_
      rintro v h3 ⟨q, rfl, hq, hBq, rfl⟩
      have XN := Ext.new hq (IA [i])
      have hS3 := XN _ _ hSh
      refine str_ok X (dk rfl) hS3 (hup_self _ _ _) (by rw [filR_len (by omega)]; omega) (by rw [filR_len (by omega)]; omega) ?_
      rw [show (filR as 6).set i (.ref q) = filR (as ++ [q]) 6 by rw [← hla]; exact filR_set (by omega)]
      repeat refine fst1_ok X (dk rfl) rfl ?_
      refine br_ok X (dk rfl) rfl (show ((42 : Nat) : Int) + (-19) = ((23 : Nat) : Int) from rfl) (fun _ => ?_) (fun q => absurd trivial q)
      refine WS.sel (l' := [(1, vI (i + 1)), (0, .ref o)]) [1, 0] (by rw [← f2]; rfl) ?_
      have kI : ∀ {b : Nat} {x : List Nat}, hup hh q (IA [i]) b = some (IA x) → hup (hup hh q (IA [i])) S (105, filR (as ++ [q]) 6) b = some (IA x) := fun {b x} hb => by rw [hup_ne _ _ (IA_ne hb hS3)]; exact hb
      refine ih (i + 1) (by omega) (by omega) _ (as ++ [q]) _ rfl (by rw [List.length_append, hla]; rfl) (by rw [hup_ne _ _ (k_ne (XN _ _ hoh) hS3 (by decide))]; exact XN _ _ hoh) (hup_self _ _ _) (by rw [hup_ne _ _ (k_ne (XN _ _ hAh) hS3 (by decide))]; exact XN _ _ hAh) ?_ ?_
      · intro k b hk
        rcases Nat.lt_or_ge k as.length with z | z
        · rw [List.getElem?_append_left z] at hk
          exact kI (XN _ _ (has k b hk))
        · have hk2 : k = as.length := by have := (List.getElem?_eq_some_iff.mp hk).1; rw [List.length_append, List.length_singleton] at this; omega
          rw [hk2, List.getElem?_concat_length] at hk
          cases hk
          rw [hk2, hla]
          exact kI (hup_self _ _ _)
      · intro b c hb e
        rw [hup_ne _ _ (fun z => by rw [z, hS] at e; cases e)]
        exact XN _ _ (FF b c hb e)
  iterate 2 refine fst1_ok X (dk rfl) rfl ?_
  exact loopS 6 0 rfl (Nat.zero_le _) h2 [] _ rfl rfl ho2 hS2 hA2 (fun k b hk => by simp at hk) F2

end F05
end Uf05ref0
section Uf11q1
/-! the class's questions, exactly (printed by wip/q/genQ1.py) -/
/-- the first number at which something holds -/
def fsF (p : Nat → Bool) : Nat → Nat → Option Nat
  | 0, _ => none
  | n + 1, k => if p k = true then some k else fsF p n (k + 1)
theorem fsF_some {p : Nat → Bool} : ∀ (n k j : Nat), j < n → (∀ i, i < j → p (k + i) = false) → p (k + j) = true → fsF p n k = some (k + j)
  | 0, _, _, h, _, _ => absurd h (Nat.not_lt_zero _)
  | n + 1, k, 0, _, _, h => if_pos h
  | n + 1, k, j + 1, hj, h0, h => by
    unfold fsF
    have e0 := h0 0 (by omega)
    rw [Nat.add_zero] at e0
    rw [if_neg (by rw [e0]; decide), fsF_some n (k + 1) j (by omega) (fun i hi => by rw [show k + 1 + i = k + (i + 1) by omega]; exact h0 (i + 1) (by omega)) (by rw [show k + 1 + j = k + (j + 1) by omega]; exact h)]
    congr 1
    omega
theorem fsF_none {p : Nat → Bool} : ∀ (n k : Nat), (∀ i, i < n → p (k + i) = false) → fsF p n k = none
  | 0, _, _ => rfl
  | n + 1, k, h => by
    unfold fsF
    have e0 := h 0 (by omega)
    rw [Nat.add_zero] at e0
    rw [if_neg (by rw [e0]; decide), fsF_none n (k + 1) (fun i hi => by rw [show k + 1 + i = k + (i + 1) by omega]; exact h (i + 1) (by omega))]
theorem fsF_at {p : Nat → Bool} {n j : Nat} (hj : j < n) (h0 : ∀ i, i < j → p i = false) (h : p j = true) : fsF p n 0 = some j := by
  have := fsF_some (p := p) n 0 j hj (fun i hi => by rw [Nat.zero_add]; exact h0 i hi) (by rw [Nat.zero_add]; exact h)
  rwa [Nat.zero_add] at this
theorem fsF_no {p : Nat → Bool} {n : Nat} (h : ∀ i, i < n → p i = false) : fsF p n 0 = none := fsF_none n 0 (fun i hi => by rw [Nat.zero_add]; exact h i hi)
def ulN (r1 r2 : List (List Nat)) : Option Nat := fsF (fun k => decide (r1.getD k [] ≠ r2.getD k [])) 8 0
def aUnlike (x1 x2 : Int32) (st : ST) : RS := if okI 3 x1 then (if okI 3 x2 then ((0, pI (ulN (st.2.1.getD (xI x1) []) (st.2.1.getD (xI x2) []))), st) else ((1, 0), st)) else ((1, 0), st)
section Q11
variable {la : Launch} {D : va_G} {cA : Nat → ClassId} {B0 pa : Nat} {B Q P : Nat → Nat} {ox : Nat} {kn d r : Int32} {F : Nat → TC}
set_option maxHeartbeats 16000000 in
theorem s0_firstUnlike (h : AH) (S : TS B Q h F) {o f : Nat} (O : AnO B h o f) {o3 g : Nat} (O2 : AnO B h o3 g) {r1 r2 : List (List Nat)} (H1 : RWX F f r1) (H2 : RWX F g r2) : CT la D cA B0 pa yX0_firstUnlike cX0_firstUnlike 3 (some .int) (rmD 3 0 0) [.ref o, .ref o3] h (RP (.int (pI (ulN r1 r2))) h) := by
  refine CT_of (by decide +kernel) (Nat.le_of_ble_eq_true rfl) ?_
  intro p e s m args below meth c X E hr hlk hnm
  have dk : ∀ {pc : Nat} {q : Instr × Nat}, lkd DX0_firstUnlike pc = some q → decode cX0_firstUnlike pc = .ok q := lkd_ok DX0_firstUnlike_ok
  obtain ⟨of, arr, o1, o2⟩ := id O
  obtain ⟨og, arr2, p1, p2⟩ := id O2
  have loop : ∀ (d k : Nat), d = 8 - k → k ≤ 8 → (∀ q, q < k → r1.getD q [] = r2.getD q []) → ∀ l : List (Nat × Value), lsel l [2, 1, 0] = [(2, vI k), (1, .ref o3), (0, .ref o)] → WR p la e (rmD 3 0 0) s m args below meth c D cA B0 3 (RP (.int (pI (ulN r1 r2))) h) 2 l [] h 0 0 := by
    intro d
    induction d with
    | zero =>
      intro k hd hk hne l hl
      have hk2 : k = 8 := by omega
      subst hk2
      refine WS.sel [2, 1, 0] hl ?_
      iterate 2 refine fst1_ok X (dk rfl) rfl ?_
      refine br_ok X (dk rfl) rfl (show ((5 : Nat) : Int) + 29 = ((34 : Nat) : Int) from rfl) (fun _ => ?_) (fun q => absurd (by rw [nI_8']; exact Int32.le_refl _) q)
      refine fst1_ok X (dk rfl) rfl ?_
      have en : ulN r1 r2 = none := fsF_no (fun q hq => decide_eq_false (fun z => z (hne q hq)))
      rw [en]
      exact reti_ok X hr hlk rfl (dk rfl) (⟨rfl, rfl⟩) (Nat.le_of_ble_eq_true rfl) (Nat.le_of_ble_eq_true rfl)
    | succ d ih =>
      intro k hd hk hne l hl
      obtain ⟨n1, a1, a2, a3, a4⟩ := H1.2 k (by omega)
      obtain ⟨n2, b1, b2, b3, b4⟩ := H2.2 k (by omega)
      have t1 : TN (F (f + k)) n1 := ⟨by rw [a2], a3.2⟩
      have t2 : TN (F (g + k)) n2 := ⟨by rw [b2], b3.2⟩
      have f3 : Value.int (nI k + Int32.ofInt 1) = vI (k + 1) := congrArg Value.int (by rw [nI_1', nI_add])
      refine WS.sel [2, 1, 0] hl ?_
      iterate 2 refine fst1_ok X (dk rfl) rfl ?_
      refine br_ok X (dk rfl) rfl (show ((5 : Nat) : Int) + 29 = ((34 : Nat) : Int) from rfl) (fun q => absurd q (nI_ge (a := k) (b := 8) (by omega) (by omega))) (fun _ => ?_)
      refine fst1_ok X (dk rfl) rfl ?_
      refine getf_ok X flX0_11 (dk rfl) o1 rfl ?_
      refine fst1_ok X (dk rfl) rfl ?_
      refine aldr_ok X (Or.inl rfl) (dk rfl) o2 (by omega) (rgB_get B f (k := k) (by omega)) ?_
      refine fst1_ok X (dk rfl) rfl ?_
      refine getf_ok X flX0_11 (dk rfl) p1 rfl ?_
      refine fst1_ok X (dk rfl) rfl ?_
      refine aldr_ok X (Or.inl rfl) (dk rfl) p2 (by omega) (rgB_get B g (k := k) (by omega)) ?_
      refine callVR_ok (ci := 7) (T := TX5) (N := 3) (av := [.ref (B (g + k))]) (r := []) X E (s5_isLike h S (i := f + k) (by omega) t1 (u := g + k) (by omega) t2 a3.1 b3.1) lkX5_isLike mlX0_74 lmX5_isLike lpX5_isLike ⟨Nat.le_of_ble_eq_true rfl, Nat.le_of_ble_eq_true rfl⟩ ⟨Nat.le_of_ble_eq_true rfl, Nat.le_of_ble_eq_true rfl⟩ rfl ⟨_, (S (f + k) (by omega)).2.1⟩ (Nat.le_of_ble_eq_true rfl) (dk rfl) ?_
      rintro _ rfl
      by_cases e1 : n1 = n2
      · rw [decide_eq_true e1]
        refine br_ok X (dk rfl) rfl (show ((23 : Nat) : Int) + 5 = ((28 : Nat) : Int) from rfl) (fun _ => ?_) (fun q => absurd bI_t q)
        refine fst1_ok X (dk rfl) rfl ?_
        refine br_ok X (dk rfl) rfl (show ((31 : Nat) : Int) + (-29) = ((2 : Nat) : Int) from rfl) (fun _ => ?_) (fun q => absurd trivial q)
        refine WS.sel (l' := [(2, vI (k + 1)), (1, .ref o3), (0, .ref o)]) [2, 1, 0] (by rw [← f3]; rfl) ?_
        exact ih (k + 1) (by omega) (by omega) (fun q hq => by
          rcases Nat.lt_or_ge q k with z | z
          · exact hne q z
          · rw [show q = k by omega, getD_of a1, getD_of b1]
            exact e1) _ rfl
      · rw [decide_eq_false e1]
        refine br_ok X (dk rfl) rfl (show ((23 : Nat) : Int) + 5 = ((28 : Nat) : Int) from rfl) (fun q => absurd q bI_f) (fun _ => ?_)
        refine fst1_ok X (dk rfl) rfl ?_
        have en : ulN r1 r2 = some k := fsF_at (by omega) (fun q hq => decide_eq_false (fun z => z (hne q hq))) (decide_eq_true (by rw [getD_of a1, getD_of b1]; exact e1))
        rw [en]
        exact reti_ok X hr hlk rfl (dk rfl) (⟨rfl, rfl⟩) (Nat.le_of_ble_eq_true rfl) (Nat.le_of_ble_eq_true rfl)
  iterate 2 refine fst1_ok X (dk rfl) rfl ?_
  exact loop _ 0 rfl (Nat.zero_le _) (fun q hq => absurd hq (Nat.not_lt_zero _)) _ rfl
set_option maxHeartbeats 8000000 in
theorem s6_unlike (h : AH) (hl : la.stackTraces = false) (Y : LYO B Q) {st : ST} (C0 : StC B Q P ox kn h st) (x1 x2 : Int32) : CTX la D cA B0 pa yX6_unlike cX6_unlike 5 (some .int) (rmD 7 2 12) [.ref ox, .int x1, .int x2] h (AP B Q P ox kn (aUnlike x1 x2 st) h) (AX (aUnlike x1 x2 st) st h) := by
  refine CTX_of (by decide +kernel) (Nat.le_of_ble_eq_true rfl) ?_
  intro p e s m args below meth c X E hr hlk hnm ht
  have dk : ∀ {pc : Nat} {q : Instr × Nat}, lkd DX6_unlike pc = some q → decode cX6_unlike pc = .ok q := lkd_ok DX6_unlike_ok
  obtain ⟨F, C, H, O⟩ := id C0
  iterate 2 refine fst1_ok X (dk rfl) rfl ?_
  refine callVX_ok (ci := 8) (T := TX6) (N := 14) (av := [.int x1]) (r := []) X E ht hlk (s6_answerOf h hl C x1) (fun E1 h1 z => AX.one (by unfold aUnlike; rw [if_neg (by rw [okI_f z.2.1]; decide)]) ⟨z.1, z.2.2⟩) lkX6_answerOf mlX6_151 lmX6_answerOf lpX6_answerOf ⟨Nat.le_of_ble_eq_true rfl, Nat.le_of_ble_eq_true rfl⟩ ⟨Nat.le_of_ble_eq_true rfl, Nat.le_of_ble_eq_true rfl⟩ rfl C.2.1 (Nat.le_of_ble_eq_true rfl) (dk rfl) ?_
  rintro _ h1 ⟨⟨k, hk, rfl, rfl⟩, eh⟩
  obtain rfl := eh.symm
  iterate 3 refine fst1_ok X (dk rfl) rfl ?_
  refine callVX_ok (ci := 8) (T := TX6) (N := 14) (av := [.int x2]) (r := []) X E ht hlk (s6_answerOf _ hl C x2) (fun E1 h1 z => AX.one (by unfold aUnlike; rw [if_pos (okI_t hk (by decide))]; rw [if_neg (by rw [okI_f z.2.1]; decide)]) ⟨z.1, z.2.2⟩) lkX6_answerOf mlX6_151 lmX6_answerOf lpX6_answerOf ⟨Nat.le_of_ble_eq_true rfl, Nat.le_of_ble_eq_true rfl⟩ ⟨Nat.le_of_ble_eq_true rfl, Nat.le_of_ble_eq_true rfl⟩ rfl C.2.1 (Nat.le_of_ble_eq_true rfl) (dk rfl) ?_
  rintro _ h1 ⟨⟨m, hm, rfl, rfl⟩, eh⟩
  obtain rfl := eh.symm
  obtain ⟨rows, sk, rk⟩ := H.2 k hk
  obtain ⟨rows2, sm, rm⟩ := H.2 m hm
  have ok := C.2.2.1.2.2.1 k hk
  have om := C.2.2.1.2.2.1 m hm
  iterate 3 refine fst1_ok X (dk rfl) rfl ?_
  refine callVR_ok (ci := 2) (T := TX0) (N := 1) (av := [.ref (P (7 + m))]) (r := []) X E (s0_firstUnlike _ C.1 ok om rk rm) lkX0_firstUnlike mlX6_233 lmX0_firstUnlike lpX0_firstUnlike ⟨Nat.le_of_ble_eq_true rfl, Nat.le_of_ble_eq_true rfl⟩ ⟨Nat.le_of_ble_eq_true rfl, Nat.le_of_ble_eq_true rfl⟩ rfl ⟨_, ok.2.choose_spec.1⟩ (Nat.le_of_ble_eq_true rfl) (dk rfl) ?_
  rintro _ rfl
  have e : aUnlike (nI k) (nI m) st = ((0, pI (ulN rows rows2)), st) := by
    unfold aUnlike
    rw [if_pos (okI_t hk (by decide)), if_pos (okI_t hm (by decide)), xI_n (by omega), xI_n (by omega), getD_of sk, getD_of sm]
  rw [e]
  refine WRX.ret ?_
  exact reti_ok X hr hlk rfl (dk rfl) (⟨rfl, rfl, ⟨F, C, H, O⟩, FrC.rf _⟩) (Nat.le_of_ble_eq_true rfl) (Nat.le_of_ble_eq_true rfl)
end Q11
end Uf11q1
section Uf12r1
/-! the reference's questions, exactly (printed by wip/q/genR1.py) -/
theorem ulN_of {r1 r2 : List (List Nat)} (l1 : r1.length = 8) (l2 : r2.length = 8) {d : Option Nat} (h1 : ∀ i, i < d.getD 8 → r1[i]? = r2[i]?) (h2 : ∀ k, d = some k → k < 8 ∧ r1[k]? ≠ r2[k]?) : ulN r1 r2 = d := by
  have gd : ∀ (r : List (List Nat)) (i : Nat), r.getD i [] = (r[i]?).getD [] := fun r i => List.getD_eq_getElem?_getD
  cases d with
  | none => exact fsF_no (fun i hi => decide_eq_false (fun z => z (by rw [gd, gd, h1 i hi])))
  | some k =>
    obtain ⟨hk, hne⟩ := h2 k rfl
    refine fsF_at hk (fun i hi => decide_eq_false (fun z => z (by rw [gd, gd, h1 i hi]))) (decide_eq_true (fun z => hne ?_))
    rw [gd, gd, List.getElem?_eq_getElem (by omega), List.getElem?_eq_getElem (by omega)] at z
    rw [List.getElem?_eq_getElem (by omega), List.getElem?_eq_getElem (by omega)]
    exact congrArg some z
section R12
variable {la : Launch} {D : va_G} {cA : Nat → ClassId} {B0 pa : Nat} {o S A : Nat} {sl : List (List Nat)} {an : List (List (List Nat))} {da dr kn th : Int32}
set_option maxHeartbeats 4000000 in
theorem RF.x_unlike (h : AH) (M : MD h o S A sl an da dr kn th) (x1 x2 : Int32) : CT la D cA B0 pa yX10_unlike cX10_unlike 3 (some .int) (rmD 4 0 0) [.ref o, .int x1, .int x2] h (refR o S A kn (aUnlike x1 x2 (sl, an, da, dr)) h) := by
  refine CT_of (by decide +kernel) (Nat.le_of_ble_eq_true rfl) ?_
  intro p e s m args below meth c X E hr hlk hnm
  have dk : ∀ {pc : Nat} {q : Instr × Nat}, lkd DX10_unlike pc = some q → decode cX10_unlike pc = .ok q := lkd_ok DX10_unlike_ok
  have mid1 : ∀ t1 : Bool, (t1 = false → inN 3 x1 ∧ inN 3 x2) → (t1 = true → ¬ (inN 3 x1 ∧ inN 3 x2)) → WR p la e (rmD 4 0 0) s m args below meth c D cA B0 3 (refR o S A kn (aUnlike x1 x2 (sl, an, da, dr)) h) 20 (lv_args 0 [.ref o, .int x1, .int x2]) [.int (bI t1), .ref o] h 0 0 := by
    intro t1 ht1 hn1
    refine thr1_ok X E M ⟨Nat.le_of_ble_eq_true rfl, Nat.le_of_ble_eq_true rfl⟩ ⟨Nat.le_of_ble_eq_true rfl, Nat.le_of_ble_eq_true rfl⟩ (Nat.le_of_ble_eq_true rfl) (dk rfl) (fun h1 M1 F1 => ?_)
    cases hb : t1 with
    | true =>
      have hT1 : ¬ (inN 3 x1 ∧ inN 3 x2) → aUnlike x1 x2 (sl, an, da, dr) = ((1, 0), (sl, an, da, dr)) := (fun hn => by
          unfold aUnlike
          by_cases q0 : okI 3 x1 = true
          rotate_left
          · exact if_neg q0
          rw [if_pos q0]
          by_cases q1 : okI 3 x2 = true
          rotate_left
          · exact if_neg q1
          rw [if_pos q1]
          exact absurd ⟨okI_in (by decide) q0, okI_in (by decide) q1⟩ hn)
      have hE : aUnlike x1 x2 (sl, an, da, dr) = ((thI t1 false, 0), (sl, an, da, dr)) := by
        rw [hb]
        exact hT1 (hn1 hb)
      refine br_ok X (dk rfl) rfl (show ((23 : Nat) : Int) + 7 = ((30 : Nat) : Int) from rfl) (fun q => absurd q bI_t) (fun _ => ?_)
      refine fst1_ok X (dk rfl) rfl ?_
      refine br_ok X (dk rfl) rfl (show ((27 : Nat) : Int) + 18 = ((45 : Nat) : Int) from rfl) (fun _ => ?_) (fun q => absurd trivial q)
      exact reti_ok X hr hlk rfl (dk rfl) (refR_thr M1 F1 hE (by decide +kernel)) (Nat.zero_le _) (Nat.zero_le _)
    | false =>
      refine br_ok X (dk rfl) rfl (show ((23 : Nat) : Int) + 7 = ((30 : Nat) : Int) from rfl) (fun _ => ?_) (fun q => absurd bI_f' q)
      obtain ⟨⟨j1, hj1, rfl⟩, ⟨j2, hj2, rfl⟩⟩ := ht1 hb
      have M1 : MD h1 o S A sl an da dr kn (nI 0) := by
        rw [hb] at M1
        exact M1
      obtain ⟨ss, s1, s2, s3⟩ := M1.slot
      obtain ⟨as, a1, a2, a3⟩ := M1.ans
      obtain ⟨b1, y1, e1, f1, g1, w1, n1⟩ := a3 j1 hj1
      obtain ⟨b2, y2, e2, f2, g2, w2, n2⟩ := a3 j2 hj2
      repeat refine fst1_ok X (dk rfl) rfl ?_
      refine getf_ok X flX10_16 (dk rfl) M1.obj rfl ?_
      refine fst1_ok X (dk rfl) rfl ?_
      refine lda_ok X (dk rfl) a2 e1 (by omega) ?_
      repeat refine fst1_ok X (dk rfl) rfl ?_
      refine getf_ok X flX10_16 (dk rfl) M1.obj rfl ?_
      refine fst1_ok X (dk rfl) rfl ?_
      refine lda_ok X (dk rfl) a2 e2 (by omega) ?_
      refine callS_ok (av := [.ref b1, .ref b2]) (r := []) X E (c_unlikeOf h1 g1 g2 w1.aw w2.aw) lkX10_unlikeOf mlX10_214 lsX10_unlikeOf ⟨Nat.le_of_ble_eq_true rfl, Nat.le_of_ble_eq_true rfl⟩ ⟨Nat.le_of_ble_eq_true rfl, Nat.le_of_ble_eq_true rfl⟩ (Nat.le_of_ble_eq_true rfl) (dk rfl) ?_
      rintro v h2 ⟨⟨d, rfl, hd1, hd2⟩, rfl⟩
      cases d with
      | none =>
        exact reti_ok X hr hlk rfl (dk rfl) (refR_ok M1 (F1) (by unfold aUnlike; dsimp only; rw [if_pos (okI_t hj1 (by decide)), if_pos (okI_t hj2 (by decide)), xI_n (by omega), xI_n (by omega), getD_of f1, getD_of f2]; rw [ulN_of w1.1 w2.1 hd1 hd2]; first | done | rfl)) (Nat.le_of_ble_eq_true rfl) (Nat.le_of_ble_eq_true rfl)
      | some d =>
        exact reti_ok X hr hlk rfl (dk rfl) (refR_ok M1 (F1) (by unfold aUnlike; dsimp only; rw [if_pos (okI_t hj1 (by decide)), if_pos (okI_t hj2 (by decide)), xI_n (by omega), xI_n (by omega), getD_of f1, getD_of f2]; rw [ulN_of w1.1 w2.1 hd1 hd2]; first | done | rfl)) (Nat.le_of_ble_eq_true rfl) (Nat.le_of_ble_eq_true rfl)
  iterate 2 refine fst1_ok X (dk rfl) rfl ?_
  refine isAnswer_ok X E mlX10_135 ⟨Nat.le_of_ble_eq_true rfl, Nat.le_of_ble_eq_true rfl⟩ ⟨Nat.le_of_ble_eq_true rfl, Nat.le_of_ble_eq_true rfl⟩ (Nat.le_of_ble_eq_true rfl) (dk rfl) (fun mid1b0 mid1h0 mid1n0 => ?_)
  cases mid1b0 with
  | false =>
    refine br_ok X (dk rfl) rfl (show ((5 : Nat) : Int) + 10 = ((15 : Nat) : Int) from rfl) (fun _ => ?_) (fun q => absurd bI_f' q)
    refine fst1_ok X (dk rfl) rfl ?_
    refine br_ok X (dk rfl) rfl (show ((16 : Nat) : Int) + 4 = ((20 : Nat) : Int) from rfl) (fun _ => ?_) (fun q => absurd trivial q)
    exact mid1 true (fun z => by cases z) (fun _ hh => absurd (hh.1) (mid1n0 rfl))
  | true =>
    refine br_ok X (dk rfl) rfl (show ((5 : Nat) : Int) + 10 = ((15 : Nat) : Int) from rfl) (fun q => absurd q bI_t) (fun _ => ?_)
    iterate 1 refine fst1_ok X (dk rfl) rfl ?_
    refine isAnswer_ok X E mlX10_135 ⟨Nat.le_of_ble_eq_true rfl, Nat.le_of_ble_eq_true rfl⟩ ⟨Nat.le_of_ble_eq_true rfl, Nat.le_of_ble_eq_true rfl⟩ (Nat.le_of_ble_eq_true rfl) (dk rfl) (fun mid1b1 mid1h1 mid1n1 => ?_)
    cases mid1b1 with
    | false =>
      refine br_ok X (dk rfl) rfl (show ((12 : Nat) : Int) + 7 = ((19 : Nat) : Int) from rfl) (fun q => absurd q bI_f) (fun _ => ?_)
      refine fst1_ok X (dk rfl) rfl ?_
      refine br_ok X (dk rfl) rfl (show ((16 : Nat) : Int) + 4 = ((20 : Nat) : Int) from rfl) (fun _ => ?_) (fun q => absurd trivial q)
      exact mid1 true (fun z => by cases z) (fun _ hh => absurd (hh.2) (mid1n1 rfl))
    | true =>
      refine br_ok X (dk rfl) rfl (show ((12 : Nat) : Int) + 7 = ((19 : Nat) : Int) from rfl) (fun _ => ?_) (fun q => absurd bI_t q)
      refine fst1_ok X (dk rfl) rfl ?_
      exact mid1 false (fun _ => ⟨mid1h0 rfl, mid1h1 rfl⟩) (fun z => by cases z)
end R12
end Uf12r1
section Uf13q2
/-! the class's questions, exactly, further (printed by wip/q/genQ2.py) -/
theorem RWX.cg {F F' : Nat → TC} {f : Nat} {rows : List (List Nat)} (H : RWX F f rows) (e : ∀ n, n < 8 → F' (f + n) = F (f + n)) : RWX F' f rows := ⟨H.1, fun n hn => by
  obtain ⟨ns, g1, g2, g3⟩ := H.2 n hn
  exact ⟨ns, g1, by rw [e n hn]; exact g2, g3⟩⟩
section Q13
variable {la : Launch} {D : va_G} {cA : Nat → ClassId} {B0 pa : Nat} {B Q P : Nat → Nat} {ox : Nat} {kn d r : Int32} {F : Nat → TC}
end Q13
end Uf13q2
section Uf14r2
/-! the reference's questions, exactly, further (printed by wip/q/genR2.py) -/
def szN (sl : List (List Nat)) : Nat → Nat
  | 0 => 0
  | k + 1 => szN sl k + (sl.getD k []).length
def mvN (an : List (List (List Nat))) : Nat → Int32
  | 0 => 0
  | k + 1 => mvN an k + bcF (nI (movedN (an.getD k []) 8))
def hsN (kn : Int32) (q : Nat) (st : ST) : Int32 := if q = 0 then st.2.2.1 else if q = 1 then st.2.2.2 else if q = 2 then kn else if q = 3 then nI (szN st.1 6) else mvN st.2.1 3
section R14
variable {la : Launch} {D : va_G} {cA : Nat → ClassId} {B0 pa : Nat} {o S A : Nat} {sl : List (List Nat)} {an : List (List (List Nat))} {da dr kn th : Int32}
end R14
end Uf14r2
section Uf18q5
/-! how many unlike terms stand in a row of terms (printed by wip/q/genQ5.py) -/
/-- terms behind each other -/
def GX (X : List Nat) : Prop := (∃ n, endL n X = some X.length) ∧ (∀ x ∈ X, okL x) ∧ X.length ≤ 256
theorem GX.tl {X : List Nat} (h : GX X) {p : Nat} (hp : p < X.length) : endL 1 (X.drop p) = some (tl X p) ∧ 0 < tl X p ∧ p + tl X p ≤ X.length := by
  obtain ⟨⟨n, hn⟩, -, -⟩ := h
  obtain ⟨k, hk⟩ := endL_at X n p hn hp
  have h1 := endL_le hk
  rw [List.length_drop] at h1
  rw [tl_of hk]
  exact ⟨hk, endL_pos (n := 0) hk, by omega⟩
section Q18
variable {la : Launch} {D : va_G} {cA : Nat → ClassId} {B0 pa : Nat} {B Q P : Nat → Nat} {ox : Nat} {kn d r : Int32} {F : Nat → TC}
end Q18
end Uf18q5
section Uf19r5
/-! the reference's shared size, exactly (printed by wip/q/genR5.py) -/
theorem RO.at {rows : List (List Nat)} (h : RO rows) {t : Nat} {r : List Nat} (ht : rows[t]? = some r) : TW r ∧ r.length ≤ 16 := h.2 r (List.mem_of_getElem? ht)
section R19
variable {la : Launch} {D : va_G} {cA : Nat → ClassId} {B0 pa : Nat} {o S A : Nat} {sl : List (List Nat)} {an : List (List (List Nat))} {da dr kn th : Int32}
end R19
end Uf19r5
section Uf30uni
/-! what makes two terms alike: steps and classes tell the same (written by hand) -/
/-- what is told of names fits what names stand for -/
def Sat (X : List Nat) (S : SS) (g : Nat → List Nat) : Prop := ∀ x q, S x = some q → g x = exF g (sub' X q)
theorem sat_dpF {X : List Nat} (hX : BX X) {S : SS} (hS : S1 X S) {g : Nat → List Nat} (H : Sat X S g) : ∀ f p, p < X.length → exF g (sub' X (dpF X S f p)) = exF g (sub' X p)
  | 0, _, _ => rfl
  | f + 1, p, hp => by
    unfold dpF
    by_cases c : gl X p < 10
    · rw [if_pos c]
      cases e : S (gl X p) with
      | none => rfl
      | some q =>
        show exF g (sub' X (dpF X S f q)) = _
        rw [sat_dpF hX hS H f q (hS _ _ e).2.1, exF_nm hX g hp c, H _ _ e]
    · rw [if_neg c]
theorem cK_inj {W : Nat → List Nat} {X : List Nat} {p q : Nat} : ∀ (n j : Nat), (∀ i, j ≤ i → i < j + n → endL 1 (W (ko X p i)) = some (W (ko X p i)).length ∧ endL 1 (W (ko X q i)) = some (W (ko X q i)).length) → cK W X p n j = cK W X q n j → ∀ i, j ≤ i → i < j + n → W (ko X p i) = W (ko X q i)
  | 0, j, _, _, i, h1, h2 => by omega
  | n + 1, j, hw, h, i, h1, h2 => by
    have e : W (ko X p j) ++ cK W X p n (j + 1) = W (ko X q j) ++ cK W X q n (j + 1) := h
    obtain ⟨a1, a2⟩ := hw j (Nat.le_refl _) (by omega)
    have b1 := endL_app _ (cK W X p n (j + 1)) _ _ a1
    have b2 := endL_app _ (cK W X q n (j + 1)) _ _ a2
    rw [e, b2] at b1
    have hl : (W (ko X p j)).length = (W (ko X q j)).length := (Option.some.inj b1).symm
    obtain ⟨c1, c2⟩ := List.append_inj e hl
    rcases Nat.lt_or_ge j i with z | z
    · exact cK_inj n (j + 1) (fun i h1 h2 => hw i (by omega) (by omega)) c2 i (by omega) (by omega)
    · have e2 : i = j := by omega
      subst e2
      exact c1
theorem cK_len {W : Nat → List Nat} {X : List Nat} {p : Nat} : ∀ (n j i : Nat), j ≤ i → i < j + n → (W (ko X p i)).length ≤ (cK W X p n j).length
  | 0, j, i, h1, h2 => by omega
  | n + 1, j, i, h1, h2 => by
    show _ ≤ (W (ko X p j) ++ cK W X p n (j + 1)).length
    rw [List.length_append]
    rcases Nat.lt_or_ge j i with z | z
    · have := cK_len (W := W) (X := X) (p := p) n (j + 1) i (by omega) (by omega)
      omega
    · have e2 : i = j := by omega
      subst e2
      omega
theorem exF_TW {X : List Nat} (hX : BX X) {g : Nat → List Nat} (hg : ∀ x, x < 8 → TW (g x)) {p : Nat} (hp : p < X.length) : TW (exF g (sub' X p)) := by
  have st := sub_TW hX hp
  rw [exF_used g st.2]
  exact TW.used (fun z hz => by
    obtain ⟨x, hx, rfl⟩ := List.mem_map.mp hz
    exact hg x (List.mem_range.mp hx)) (by rw [List.length_map, List.length_range]; omega) st
theorem exF_heads {X : List Nat} (hX : BX X) {g : Nat → List Nat} (hg : ∀ x, x < 8 → TW (g x)) {a b : Nat} (ha : a < X.length) (hb : b < X.length) (h1 : 10 ≤ gl X a) (h2 : 10 ≤ gl X b) (h : exF g (sub' X a) = exF g (sub' X b)) : gl X a = gl X b ∧ ∀ j, j < ga X a → exF g (sub' X (ko X a j)) = exF g (sub' X (ko X b j)) := by
  rw [exF_hd hX g ha h1, exF_hd hX g hb h2] at h
  obtain ⟨e1, e2⟩ := List.cons.inj h
  have eg := ga_eq e1
  rw [← eg] at e2
  refine ⟨e1, fun j hj => ?_⟩
  exact cK_inj (W := fun q => exF g (sub' X q)) _ 0 (fun i _ hi => ⟨(exF_TW hX hg (ko_mono hX ha (j := i) (by omega)).2.2.2.2).1, (exF_TW hX hg (ko_mono hX hb (j := i) (by omega)).2.2.2.2).1⟩) e2 j (Nat.zero_le _) (by omega)
theorem exF_parts {X : List Nat} (hX : BX X) {g : Nat → List Nat} {a b : Nat} (ha : a < X.length) (hb : b < X.length) (h1 : 10 ≤ gl X a) (e : gl X a = gl X b) (h : ∀ j, j < ga X a → exF g (sub' X (ko X a j)) = exF g (sub' X (ko X b j))) : exF g (sub' X a) = exF g (sub' X b) := by
  rw [exF_hd hX g ha h1, exF_hd hX g hb (by omega), ← e, ← ga_eq e]
  congr 1
  exact cK_two (W := fun q => exF g (sub' X q)) _ 0 (fun i _ hi => h i (by omega))
theorem exF_mem {g : Nat → List Nat} : ∀ {xs : List Nat} {y : Nat}, y ∈ xs → y < 10 → (g y).length ≤ (exF g xs).length
  | [], y, h, _ => by cases h
  | x :: r, y, h, hy => by
    rw [exF_cons, List.length_append]
    rcases List.mem_cons.mp h with z | z
    · subst z
      have : exN g y = g y := if_pos hy
      rw [this]
      omega
    · have := exF_mem (g := g) z hy
      omega
theorem wRow_all {P : Nat → Prop} {sm : SM} (hc : ∀ k t, k < 8 → P k → sm.getD k none = some t → ∀ y, y < 10 → y ∈ t → P y) {s : Nat} (hs : ∀ y, y < 10 → bt s y → P y) : ∀ k, k ≤ 8 → ∀ y, y < 10 → bt (wRow sm s k) y → P y
  | 0, _, y, hy, h => hs y hy h
  | k + 1, hk, y, hy, h => by
    have ih := wRow_all hc hs k (by omega)
    unfold wRow wStep at h
    split at h
    · rename_i hb
      cases e : sm.getD k none with
      | none =>
        rw [e] at h
        exact ih y hy h
      | some t =>
        rw [e] at h
        rcases (bt_or _ _ _).mp h with z | z
        · exact ih y hy z
        · exact hc k t (by omega) (ih k (by omega) hb) e y hy ((namesN_mem hy t).mp z)
    · exact ih y hy h
theorem wAll_all {P : Nat → Prop} {sm : SM} (hc : ∀ k t, k < 8 → P k → sm.getD k none = some t → ∀ y, y < 10 → y ∈ t → P y) {s : Nat} (hs : ∀ y, y < 10 → bt s y → P y) : ∀ n y, y < 10 → bt (wAll sm s n) y → P y
  | 0, y, hy, h => hs y hy h
  | n + 1, y, hy, h => wRow_all hc (wAll_all hc hs n) 8 (Nat.le_refl _) y hy h
/-- what stands within a term is shorter than it -/
theorem wi_size {X : List Nat} (hX : BX X) {S : SS} {g : Nat → List Nat} (H : Sat X S g) {x b : Nat} (hx : x < 8) (hb : b < X.length) (hh : 10 ≤ gl X b) (h : isWi (smO X S) x (sub' X b) = true) : (g x).length < (exF g (sub' X b)).length := by
  have h2 : bt (wAll (smO X S) (namesN (sub' X b)) 8) x := by
    have z : wAll (smO X S) (namesN (sub' X b)) 8 >>> x % 2 = 1 := of_decide_eq_true h
    exact z
  refine wAll_all (P := fun y => (g y).length < (exF g (sub' X b)).length) (fun k t hk hP ht y hy hm => ?_) (fun y hy hm => ?_) 8 x (by omega) h2
  · rw [smO_get X S hk] at ht
    cases e : S k with
    | none => rw [e] at ht; cases ht
    | some q =>
      rw [e] at ht
      have e2 : sub' X q = t := Option.some.inj ht
      have e3 := H k q e
      rw [e2] at e3
      have := exF_mem (g := g) hm hy
      rw [← e3] at this
      exact Nat.lt_of_le_of_lt this hP
  · have hm2 := (namesN_mem hy (sub' X b)).mp hm
    rw [sub_cons hX hb] at hm2 ⊢
    rcases List.mem_cons.mp hm2 with z | z
    · omega
    · have := exF_mem (g := g) z hy
      rw [exF_cons, List.length_append]
      have e : exN g (gl X b) = [gl X b] := if_neg (by omega)
      rw [e]
      show _ < 1 + _
      omega
theorem kdL_mm {X : List Nat} {a b : Nat} : ∀ {k j : Nat} {z : Nat × Nat}, z ∈ kdL X a b k j → ∃ i, j ≤ i ∧ i < j + k ∧ z = (ko X a i, ko X b i)
  | 0, j, z, h => by cases h
  | k + 1, j, z, h => by
    rcases List.mem_cons.mp h with q | q
    · exact ⟨j, Nat.le_refl _, by omega, q⟩
    · obtain ⟨i, h1, h2, h3⟩ := kdL_mm q
      exact ⟨i, by omega, by omega, h3⟩
theorem sat_up {X : List Nat} {S : SS} {g : Nat → List Nat} (H : Sat X S g) {x t : Nat} (h : g x = exF g (sub' X t)) : Sat X (upS S x t) g := fun y r hy => by
  unfold upS at hy
  split at hy
  · rename_i ey
    cases hy
    rw [ey]
    exact h
  · exact H y r hy
theorem sat_dn {X : List Nat} {S : SS} {g : Nat → List Nat} {x t : Nat} (hn : S x = none) (H : Sat X (upS S x t) g) : Sat X S g ∧ g x = exF g (sub' X t) :=
  ⟨fun y r hy => H y r (by
    unfold upS
    rw [if_neg (fun z => by rw [z, hn] at hy; cases hy)]
    exact hy), H x t (by unfold upS; rw [if_pos rfl])⟩
/-- a step keeps what makes the pairs alike -/
theorem step_sat {X : List Nat} (hX : BX X) {S : SS} (hS : S1 X S) {g : Nat → List Nat} (hg : ∀ x, x < 8 → TW (g x)) (H : Sat X S g) {p q : Nat} (hp : p < X.length) (hq : q < X.length) (h : exF g (sub' X p) = exF g (sub' X q)) :
    (stepM X S p q).2.1 = 0 ∧ Sat X (stepM X S p q).1 g ∧ ∀ z ∈ (stepM X S p q).2.2, exF g (sub' X z.1) = exF g (sub' X z.2) := by
  obtain ⟨-, -, a3⟩ := dp_ok hX hS hp
  obtain ⟨-, -, b3⟩ := dp_ok hX hS hq
  have e : exF g (sub' X (dp X S p)) = exF g (sub' X (dp X S q)) := (sat_dpF hX hS H 9 p hp).trans (h.trans (sat_dpF hX hS H 9 q hq).symm)
  unfold stepM
  generalize dp X S p = a at a3 e ⊢
  generalize dp X S q = b at b3 e ⊢
  by_cases ca : gl X a < 10
  · have ea := exF_nm hX g a3 ca
    rw [if_pos ca]
    by_cases cb : gl X b < 10
    · have eb := exF_nm hX g b3 cb
      rw [if_pos cb]
      by_cases c1 : gl X b < gl X a
      · rw [if_pos c1]
        exact ⟨rfl, sat_up H (by rw [← ea, e]), fun z hz => by cases hz⟩
      · rw [if_neg c1]
        by_cases c2 : gl X a < gl X b
        · rw [if_pos c2]
          exact ⟨rfl, sat_up H (by rw [← eb, e]), fun z hz => by cases hz⟩
        · rw [if_neg c2]
          exact ⟨rfl, H, fun z hz => by cases hz⟩
    · rw [if_neg cb]
      have hw : ¬ isWi (smO X S) (gl X a) (sub' X b) = true := fun w => by
        have := wi_size hX H (gl_8 hX a3 ca) b3 (by omega) w
        rw [← e, ea] at this
        omega
      rw [if_neg hw]
      exact ⟨rfl, sat_up H (by rw [← ea, e]), fun z hz => by cases hz⟩
  · rw [if_neg ca]
    by_cases cb : gl X b < 10
    · have eb := exF_nm hX g b3 cb
      rw [if_pos cb]
      have hw : ¬ isWi (smO X S) (gl X b) (sub' X a) = true := fun w => by
        have := wi_size hX H (gl_8 hX b3 cb) a3 (by omega) w
        rw [e, eb] at this
        omega
      rw [if_neg hw]
      exact ⟨rfl, sat_up H (by rw [← eb, e]), fun z hz => by cases hz⟩
    · rw [if_neg cb]
      obtain ⟨g1, g2⟩ := exF_heads hX hg a3 b3 (by omega) (by omega) e
      rw [if_pos g1]
      refine ⟨rfl, H, fun z hz => ?_⟩
      obtain ⟨i, h1, h2, rfl⟩ := kdL_mm hz
      exact g2 i (by omega)
/-- what fits after a step made the pair alike -/
theorem step_sol {X : List Nat} (hX : BX X) {S : SS} (hS : S1 X S) {g : Nat → List Nat} {p q : Nat} (hp : p < X.length) (hq : q < X.length) (h0 : (stepM X S p q).2.1 = 0) (H : Sat X (stepM X S p q).1 g) (hk : ∀ z ∈ (stepM X S p q).2.2, exF g (sub' X z.1) = exF g (sub' X z.2)) :
    Sat X S g ∧ exF g (sub' X p) = exF g (sub' X q) := by
  obtain ⟨-, a2, a3⟩ := dp_ok hX hS hp
  obtain ⟨-, b2, b3⟩ := dp_ok hX hS hq
  have fin : Sat X S g → exF g (sub' X (dp X S p)) = exF g (sub' X (dp X S q)) → Sat X S g ∧ exF g (sub' X p) = exF g (sub' X q) := fun H e =>
    ⟨H, (sat_dpF hX hS H 9 p hp).symm.trans (e.trans (sat_dpF hX hS H 9 q hq))⟩
  unfold stepM at h0 H hk
  generalize dp X S p = a at a2 a3 fin h0 H hk
  generalize dp X S q = b at b2 b3 fin h0 H hk
  by_cases ca : gl X a < 10
  · have ea := exF_nm hX g a3 ca
    rw [if_pos ca] at h0 H hk
    by_cases cb : gl X b < 10
    · have eb := exF_nm hX g b3 cb
      rw [if_pos cb] at h0 H hk
      by_cases c1 : gl X b < gl X a
      · rw [if_pos c1] at H
        obtain ⟨H1, H2⟩ := sat_dn (a2 ca) H
        exact fin H1 (by rw [ea, H2])
      · rw [if_neg c1] at H
        by_cases c2 : gl X a < gl X b
        · rw [if_pos c2] at H
          obtain ⟨H1, H2⟩ := sat_dn (b2 cb) H
          exact fin H1 (by rw [eb, H2])
        · rw [if_neg c2] at H
          have e : gl X a = gl X b := by omega
          exact fin H (by rw [ea, eb, e])
    · rw [if_neg cb] at h0 H hk
      by_cases w : isWi (smO X S) (gl X a) (sub' X b) = true
      · rw [if_pos w] at h0
        cases h0
      · rw [if_neg w] at H
        obtain ⟨H1, H2⟩ := sat_dn (a2 ca) H
        exact fin H1 (by rw [ea, H2])
  · rw [if_neg ca] at h0 H hk
    by_cases cb : gl X b < 10
    · have eb := exF_nm hX g b3 cb
      rw [if_pos cb] at h0 H hk
      by_cases w : isWi (smO X S) (gl X b) (sub' X a) = true
      · rw [if_pos w] at h0
        cases h0
      · rw [if_neg w] at H
        obtain ⟨H1, H2⟩ := sat_dn (b2 cb) H
        exact fin H1 (by rw [eb, H2])
    · rw [if_neg cb] at h0 H hk
      by_cases e : gl X a = gl X b
      · rw [if_pos e] at H hk
        refine fin H (exF_parts hX a3 b3 (by omega) e (fun j hj => ?_))
        have hm : (ko X a j, ko X b j) ∈ kdL X a b (ga X a) 0 := by
          have := kdL_get X a b (ga X a) 0 j hj
          rw [Nat.zero_add] at this
          exact List.mem_of_getElem? this
        exact hk _ hm
      · rw [if_neg e] at h0
        cases h0
theorem run_sat {X : List Nat} (hX : BX X) {g : Nat → List Nat} (hg : ∀ x, x < 8 → TW (g x)) : ∀ (n : Nat) (S : SS) (m : Nat) (ps : PL2) (S' : SS) (w m' : Nat), runM X n S m ps = some (S', w, m') → S1 X S → Sat X S g → (∀ z ∈ ps, z.1 < X.length ∧ z.2 < X.length ∧ exF g (sub' X z.1) = exF g (sub' X z.2)) → w = 0 ∧ Sat X S' g := by
  intro n
  induction n with
  | zero =>
    intro S m ps S' w m' h hS H hz
    cases ps with
    | nil =>
      cases h
      exact ⟨rfl, H⟩
    | cons z r => cases h
  | succ n ih =>
    intro S m ps S' w m' h hS H hz
    cases ps with
    | nil =>
      cases h
      exact ⟨rfl, H⟩
    | cons z r =>
      obtain ⟨z1, z2, z3⟩ := hz z List.mem_cons_self
      obtain ⟨s1, s2, -, -⟩ := stepM_ok hX hS z1 z2
      obtain ⟨t1, t2, t3⟩ := step_sat hX hS hg H z1 z2 z3
      rw [runM] at h
      split at h
      · cases h
      · first | rw [if_pos t1] at h | skip
        refine ih _ _ _ _ _ _ h s1 t2 (fun y hy => ?_)
        rcases List.mem_append.mp hy with q | q
        · exact ⟨(s2 y q).1, (s2 y q).2, t3 y q⟩
        · exact hz y (List.mem_cons_of_mem _ q)
theorem run_sol {X : List Nat} (hX : BX X) {g : Nat → List Nat} : ∀ (n : Nat) (S : SS) (m : Nat) (ps : PL2) (S' : SS) (m' : Nat), runM X n S m ps = some (S', 0, m') → S1 X S → Sat X S' g → (∀ z ∈ ps, z.1 < X.length ∧ z.2 < X.length) → Sat X S g ∧ ∀ z ∈ ps, exF g (sub' X z.1) = exF g (sub' X z.2) := by
  intro n
  induction n with
  | zero =>
    intro S m ps S' m' h hS H hz
    cases ps with
    | nil =>
      cases h
      exact ⟨H, fun z hz => by cases hz⟩
    | cons z r => cases h
  | succ n ih =>
    intro S m ps S' m' h hS H hz
    cases ps with
    | nil =>
      cases h
      exact ⟨H, fun z hz => by cases hz⟩
    | cons z r =>
      obtain ⟨z1, z2⟩ := hz z List.mem_cons_self
      obtain ⟨s1, s2, -, -⟩ := stepM_ok hX hS z1 z2
      rw [runM] at h
      split at h
      · cases h
      · by_cases h0 : (stepM X S z.1 z.2).2.1 = 0
        · rw [if_pos h0] at h
          obtain ⟨i1, i2⟩ := ih _ _ _ _ _ h s1 H (fun y hy => (List.mem_append.mp hy).elim (fun q => s2 y q) (fun q => hz y (List.mem_cons_of_mem _ q)))
          obtain ⟨t1, t2⟩ := step_sol hX hS z1 z2 h0 i1 (fun y hy => i2 y (List.mem_append_left _ hy))
          refine ⟨t1, fun y hy => ?_⟩
          rcases List.mem_cons.mp hy with q | q
          · rw [q]
            exact t2
          · exact i2 y (List.mem_append_right _ q)
        · rw [if_neg h0] at h
          exact absurd (Prod.mk.inj (Prod.mk.inj (Option.some.inj h)).2).1 h0
/-- a function of names that makes two terms alike -/
def Uni (one other : List Nat) (g : Nat → List Nat) : Prop := (∀ x, x < 8 → TW (g x)) ∧ exF g one = exF g other
theorem ExP.sat {X : List Nat} {S : SS} {E : Nat → List Nat} (h : ExP X S E) : Sat X S E := fun x q e => by
  have := h x
  rw [e] at this
  exact this
theorem PEs.uni {one other : List Nat} (t1 : TW one ∧ one.length ≤ 16) (t2 : TW other ∧ other.length ≤ 16) {E : Nat → List Nat} (h : PEs one other E) : Uni one other E := by
  obtain ⟨bY, e1, e2⟩ := BY_of t1 t2
  obtain ⟨G, S, -, -, hr, hS, hA, -, hE⟩ := h
  refine ⟨ExP.tw bY.1 hS hA hE, ?_⟩
  have n1 := bY.2.2.2.1
  have this : exF E (sub' (one ++ other) 0) = exF E (sub' (one ++ other) one.length) := (run_sol bY.1 _ _ _ _ _ _ hr (fun x q z => by cases z) hE.sat (fun z hz => by
    rw [List.mem_singleton.mp hz]
    exact ⟨by show 0 < _; omega, n1⟩)).2 _ (List.mem_singleton.mpr rfl)
  rw [e1, e2] at this
  exact this
theorem PEc.uni {one other : List Nat} (t1 : TW one ∧ one.length ≤ 16) (t2 : TW other ∧ other.length ≤ 16) {E : Nat → List Nat} (h : PEc one other E) : Uni one other E := by
  obtain ⟨bY, e1, e2⟩ := BY_of t1 t2
  obtain ⟨k, S, M, A, sk, hE⟩ := h
  refine ⟨ExP.tw bY.1 sk.s1 (SKP.ac bY.1 sk M.1 A) hE, ?_⟩
  have n1 := bY.2.2.2.1
  have := SKP.same bY.1 sk M.1 A hE 0 one.length (by omega) n1 M.1.1
  rw [e1, e2] at this
  exact this
/-- what makes alike comes from what steps tell -/
theorem sat_mgu {X : List Nat} (hX : BX X) {S : SS} (hS : S1 X S) (hA : Ac X S) {E g : Nat → List Nat} (hE : ExP X S E) (H : Sat X S g) : ∀ x, x < 10 → exF g (E x) = g x := by
  obtain ⟨rk, K, -, hR⟩ := Ac.rk hX hS hA
  have key : ∀ n x, rk x < n → x < 10 → exF g (E x) = g x := by
    intro n
    induction n with
    | zero => intro x h; omega
    | succ n ih =>
      intro x hn hx
      have e := hE x
      cases es : S x with
      | none =>
        rw [es] at e
        rw [e]
        show exN g x ++ [] = g x
        rw [List.append_nil]
        exact if_pos hx
      | some q =>
        rw [es] at e
        have e' : E x = exF E (sub' X q) := e
        rw [e', H x q es]
        have inner : ∀ xs : List Nat, (∀ y ∈ xs, y < 10 → exF g (E y) = g y) → exF g (exF E xs) = exF g xs := by
          intro xs
          induction xs with
          | nil => intro _; rfl
          | cons y r ihr =>
            intro hy
            rw [exF_cons, exF_app, exF_cons, ihr (fun z hz => hy z (List.mem_cons_of_mem _ hz))]
            congr 1
            by_cases c : y < 10
            · have a1 : exN E y = E y := if_pos c
              have a2 : exN g y = g y := if_pos c
              rw [a1, a2]
              exact hy y List.mem_cons_self c
            · have a1 : exN E y = [y] := if_neg c
              have a2 : exN g y = [y] := if_neg c
              rw [a1, a2]
              show exN g y ++ [] = _
              rw [a2]
              rfl
        exact inner _ (fun y hy hy10 => ih y (by have := hR x q es y hy hy10; omega) hy10)
  intro x hx
  exact key (rk x + 1) x (Nat.lt_succ_self _) hx
/-- a name that another one stands for at last is not greater -/
theorem ex_least {X : List Nat} (hX : BX X) {S : SS} (hS : S1 X S) {E : Nat → List Nat} (hE : ExP X S E) : ∀ n z y, z < n → y < 10 → E z = [y] → y ≤ z := by
  intro n
  induction n with
  | zero => intro z y h; omega
  | succ n ih =>
    intro z y hn hy he
    have e := hE z
    cases es : S z with
    | none =>
      rw [es] at e
      rw [e] at he
      cases he
      exact Nat.le_refl _
    | some q =>
      rw [es] at e
      have e' : E z = exF E (sub' X q) := e
      obtain ⟨-, q2, q3⟩ := hS z q es
      by_cases c : gl X q < 10
      · rw [exF_nm hX E q2 c] at e'
        have := ih (gl X q) y (by have := q3 c; omega) hy (by rw [← e']; exact he)
        have := q3 c
        omega
      · rw [exF_hd hX E q2 (by omega), he] at e'
        have := (List.cons.inj e').1
        omega
/-- the names that are left stand for nothing -/
theorem ex_left {X : List Nat} (hX : BX X) {S : SS} (hS : S1 X S) (hA : Ac X S) {E : Nat → List Nat} (hE : ExP X S E) : ∀ x y, y ∈ E x → y < 10 → S y = none := by
  obtain ⟨rk, K, -, hR⟩ := Ac.rk hX hS hA
  have key : ∀ n x, rk x < n → ∀ y, y ∈ E x → y < 10 → S y = none := by
    intro n
    induction n with
    | zero => intro x h; omega
    | succ n ih =>
      intro x hn y hm hy
      have e := hE x
      cases es : S x with
      | none =>
        rw [es] at e
        rw [e] at hm
        rw [List.mem_singleton.mp hm]
        exact es
      | some q =>
        rw [es] at e
        have e' : E x = exF E (sub' X q) := e
        rw [e'] at hm
        obtain ⟨z, hz, hm2⟩ := List.mem_flatMap.mp hm
        by_cases c : z < 10
        · have a1 : exN E z = E z := if_pos c
          rw [a1] at hm2
          exact ih z (by have := hR x q es z hz c; omega) y hm2 hy
        · have a1 : exN E z = [z] := if_neg c
          rw [a1] at hm2
          have := List.mem_singleton.mp hm2
          omega
  intro x y hm hy
  exact key (rk x + 1) x (Nat.lt_succ_self _) y hm hy
theorem exF_self {g : Nat → List Nat} : ∀ {xs : List Nat}, (∀ y ∈ xs, y < 10 → g y = [y]) → exF g xs = xs
  | [], _ => rfl
  | x :: r, h => by
    rw [exF_cons, exF_self (fun y hy => h y (List.mem_cons_of_mem _ hy))]
    have e : exN g x = [x] := by
      by_cases c : x < 10
      · have a1 : exN g x = g x := if_pos c
        rw [a1]
        exact h x List.mem_cons_self c
      · exact if_neg c
    rw [e]
    rfl
/-- two most general ones, both by least names, are the same -/
theorem mgu_same {X : List Nat} (hX : BX X) {S S' : SS} (hS : S1 X S) (hS' : S1 X S') (hA : Ac X S) (hA' : Ac X S') {E E' : Nat → List Nat} (hE : ExP X S E) (hE' : ExP X S' E') (H : Sat X S E') (H' : Sat X S' E) : ∀ x, x < 8 → E x = E' x := by
  intro x hx
  have m1 := sat_mgu hX hS hA hE H
  have m2 := sat_mgu hX hS' hA' hE' H'
  have tw := ExP.tw hX hS hA hE
  have tw' := ExP.tw hX hS' hA' hE'
  rw [← m1 x (by omega)]
  refine (exF_self (fun y hy hy10 => ?_)).symm
  have ey : E y = [y] := by
    have := hE y
    rw [ex_left hX hS hA hE x y hy hy10] at this
    exact this
  have hy8 : y < 8 := by rcases (tw x hx).2 y hy with q | q <;> omega
  have e2 := m2 y hy10
  rw [ey] at e2
  have hl := exF_len tw (xs := E' y) (tw' y hy8).2
  rw [e2] at hl
  have hp := (tw' y hy8).pos
  obtain ⟨z, hz⟩ : ∃ z, E' y = [z] := by
    cases ee : E' y with
    | nil => rw [ee] at hp; simp at hp
    | cons z r =>
      rw [ee] at hl
      have : r = [] := List.length_eq_zero_iff.mp (by have h3 : r.length + 1 ≤ 1 := hl; omega)
      exact ⟨z, by rw [this]⟩
  rw [hz] at e2
  have e3 : exN E z = [y] := by
    have : exN E z ++ [] = [y] := e2
    rwa [List.append_nil] at this
  by_cases c : z < 10
  · have a1 : exN E z = E z := if_pos c
    rw [a1] at e3
    have l1 := ex_least hX hS hE (z + 1) z y (Nat.lt_succ_self _) hy10 e3
    have l2 := ex_least hX hS' hE' (y + 1) y z (Nat.lt_succ_self _) c hz
    rw [hz, show z = y by omega]
  · have a1 : exN E z = [z] := if_neg c
    rw [a1] at e3
    rw [hz]
    exact e3
theorem fsF_ex {p : Nat → Bool} : ∀ (n k : Nat), (∃ i, i < n ∧ p (k + i) = true) → ∃ j, fsF p n k = some j ∧ p j = true ∧ j < k + n
  | 0, _, ⟨i, h, _⟩ => absurd h (Nat.not_lt_zero _)
  | n + 1, k, ⟨i, h, hp⟩ => by
    unfold fsF
    by_cases c : p k = true
    · rw [if_pos c]
      exact ⟨k, rfl, c, by omega⟩
    · rw [if_neg c]
      have hi : i ≠ 0 := fun z => c (by rw [z] at hp; exact hp)
      obtain ⟨j, j1, j2, j3⟩ := fsF_ex n (k + 1) ⟨i - 1, by omega, by rw [show k + 1 + (i - 1) = k + i by omega]; exact hp⟩
      exact ⟨j, j1, j2, by omega⟩
/-- a class named by its first place -/
noncomputable def clsF (R : Nat → Nat → Prop) (n p : Nat) : Nat := by
  classical
  exact (fsF (fun q => decide (R p q)) n 0).getD 0
theorem clsF_iff {R : Nat → Nat → Prop} (rf : ∀ a, R a a) (sy : ∀ a b, R a b → R b a) (tr : ∀ a b c, R a b → R b c → R a c) {n p q : Nat} (hp : p < n) (hq : q < n) : clsF R n p = clsF R n q ↔ R p q := by
  classical
  have ex : ∀ u, u < n → R u (clsF R n u) := fun u hu => by
    obtain ⟨j, j1, j2, -⟩ := fsF_ex (p := fun q => decide (R u q)) n 0 ⟨u, hu, by rw [Nat.zero_add]; exact decide_eq_true (rf u)⟩
    have e : clsF R n u = j := by
      show (fsF (fun q => decide (R u q)) n 0).getD 0 = j
      rw [j1]
      rfl
    rw [e]
    exact of_decide_eq_true j2
  constructor
  · intro h
    have a := ex p hp
    rw [h] at a
    exact tr _ _ _ a (sy _ _ (ex q hq))
  · intro h
    have e : R p = R q := funext (fun u => propext ⟨fun z => tr _ _ _ (sy _ _ h) z, fun z => tr _ _ _ h z⟩)
    unfold clsF
    rw [e]
/-- the least classes, where there are any -/
theorem MnK.ex {X : List Nat} {n1 : Nat} (h0 : 0 < X.length) (hn : n1 < X.length) (hX : BX X) {k0 : Nat → Nat} (G0 : GdK X n1 k0) : ∃ k, MnK X n1 k := by
  have rf : ∀ a, ∀ k', GdK X n1 k' → k' a = k' a := fun a k' _ => rfl
  have sy : ∀ a b, (∀ k', GdK X n1 k' → k' a = k' b) → ∀ k', GdK X n1 k' → k' b = k' a := fun a b h k' g => (h k' g).symm
  have tr : ∀ a b c, (∀ k', GdK X n1 k' → k' a = k' b) → (∀ k', GdK X n1 k' → k' b = k' c) → ∀ k', GdK X n1 k' → k' a = k' c := fun a b c h1 h2 k' g => (h1 k' g).trans (h2 k' g)
  have key : ∀ {p q : Nat}, p < X.length → q < X.length → (clsF (fun a b => ∀ k', GdK X n1 k' → k' a = k' b) X.length p = clsF (fun a b => ∀ k', GdK X n1 k' → k' a = k' b) X.length q ↔ ∀ k', GdK X n1 k' → k' p = k' q) := fun hp hq => clsF_iff rf sy tr hp hq
  refine ⟨clsF (fun a b => ∀ k', GdK X n1 k' → k' a = k' b) X.length, ⟨(key h0 hn).mpr (fun k' g => g.1), fun p q hp hq e => (key hp hq).mpr (fun k' g => g.2.1 p q hp hq e), fun p q hp hq e a1 a2 => ?_⟩, fun k' g p q hp hq e => (key hp hq).mp e k' g⟩
  have e2 := (key hp hq).mp e
  obtain ⟨g1, -⟩ := G0.2.2 p q hp hq (e2 k0 G0) a1 a2
  refine ⟨g1, fun j hj => (key (ko_mono hX hp hj).2.2.2.2 (ko_mono hX hq (by rw [← ga_eq g1]; exact hj)).2.2.2.2).mpr (fun k' g => (g.2.2 p q hp hq (e2 k' g) a1 a2).2 j hj)⟩
/-- what makes alike gives classes -/
theorem Uni.cls {one other : List Nat} (t1 : TW one ∧ one.length ≤ 16) (t2 : TW other ∧ other.length ≤ 16) {g : Nat → List Nat} (h : Uni one other g) : ∃ k, (∀ p q, p < (one ++ other).length → q < (one ++ other).length → k p = k q → exF g (sub' (one ++ other) p) = exF g (sub' (one ++ other) q)) ∧ GdK (one ++ other) one.length k ∧ AcK (one ++ other) k := by
  obtain ⟨bY, e1, e2⟩ := BY_of t1 t2
  obtain ⟨hg, hu⟩ := h
  have hX := bY.1
  have n1 : one.length < (one ++ other).length := bY.2.2.2.1
  have key : ∀ {p q : Nat}, p < (one ++ other).length → q < (one ++ other).length → (clsF (fun a b => exF g (sub' (one ++ other) a) = exF g (sub' (one ++ other) b)) (one ++ other).length p = clsF (fun a b => exF g (sub' (one ++ other) a) = exF g (sub' (one ++ other) b)) (one ++ other).length q ↔ exF g (sub' (one ++ other) p) = exF g (sub' (one ++ other) q)) := fun hp hq => clsF_iff (R := fun a b => exF g (sub' (one ++ other) a) = exF g (sub' (one ++ other) b)) (fun _ => rfl) (fun _ _ h => h.symm) (fun _ _ _ h1 h2 => h1.trans h2) hp hq
  refine ⟨_, fun p q hp hq e => (key hp hq).mp e, ⟨(key (by omega) n1).mpr (by rw [e1, e2]; exact hu), fun p q hp hq e => (key hp hq).mpr (by rw [e]), fun p q hp hq e a1 a2 => ?_⟩, fun p => (exF g (sub' (one ++ other) p)).length, fun p q hp hq e => congrArg List.length ((key hp hq).mp e), fun p hp j hj => ?_⟩
  · obtain ⟨g1, g2⟩ := exF_heads hX hg hp hq a1 a2 ((key hp hq).mp e)
    exact ⟨g1, fun j hj => (key (ko_mono hX hp hj).2.2.2.2 (ko_mono hX hq (by rw [← ga_eq g1]; exact hj)).2.2.2.2).mpr (g2 j hj)⟩
  · have h10 : 10 ≤ gl (one ++ other) p := by
      rcases Nat.lt_or_ge (gl (one ++ other) p) 10 with z | z
      · rw [ga_name z] at hj
        exact absurd hj (Nat.not_lt_zero _)
      · exact z
    have := cK_len (W := fun q => exF g (sub' (one ++ other) q)) (X := one ++ other) (p := p) (ga (one ++ other) p) 0 j (Nat.zero_le _) (by omega)
    show (exF g (sub' (one ++ other) (ko (one ++ other) p j))).length < (exF g (sub' (one ++ other) p)).length
    rw [exF_hd hX g hp h10, List.length_cons]
    exact Nat.lt_succ_of_le this
/-- steps and classes tell the same -/
theorem PEs.same {one other : List Nat} (t1 : TW one ∧ one.length ≤ 16) (t2 : TW other ∧ other.length ≤ 16) {E E' : Nat → List Nat} (h : PEs one other E) (h' : PEc one other E') : ∀ x, x < 8 → E x = E' x := by
  have u := h.uni t1 t2
  have u' := h'.uni t1 t2
  obtain ⟨bY, e1, e2⟩ := BY_of t1 t2
  have n1 : one.length < (one ++ other).length := bY.2.2.2.1
  obtain ⟨kE, c1, c2, c3⟩ := u.cls t1 t2
  obtain ⟨G, S, -, -, hr, hS, hA, -, hE⟩ := h
  obtain ⟨k, S', M, A, sk, hE'⟩ := h'
  refine mgu_same bY.1 hS sk.s1 hA (SKP.ac bY.1 sk M.1 A) hE hE' ?_ ?_
  · exact (run_sat bY.1 u'.1 _ _ _ _ _ _ _ hr (fun x q z => by cases z) (fun x q z => by cases z) (fun z hz => by
      rw [List.mem_singleton.mp hz]
      exact ⟨by show 0 < _; omega, n1, by show exF E' (sub' _ 0) = exF E' (sub' _ one.length); rw [e1, e2]; exact u'.2⟩)).2
  · intro x q e
    obtain ⟨x8, q2, p, p1, p2, p3, -⟩ := sk.1 x q e
    have := c1 p q p1 q2 (M.2 kE c2 p q p1 q2 p3)
    rw [exF_nm bY.1 E p1 (by omega), p2] at this
    exact this
end Uf30uni
section Uf31snd
/-! what two terms have in common, and a plain term, are matched onto them (written by hand) -/
/-- letters so far matched: what is told, where it stands -/
def Prg (onto xs : List Nat) (b : Nat) (t : List (Option (List Nat))) : Prop := ∀ ys, matchF onto (xs ++ ys) 0 (List.replicate 8 none) = matchF onto ys b t
theorem Prg.nil (onto : List Nat) : Prg onto [] 0 (List.replicate 8 none) := fun _ => rfl
theorem Prg.end {onto xs : List Nat} {b : Nat} {t : List (Option (List Nat))} (h : Prg onto xs b t) : (matchL xs onto).isSome = true := by
  have := h []
  rw [List.append_nil] at this
  unfold matchL
  rw [this]
  rfl
theorem Prg.add {onto xs : List Nat} {b b' x : Nat} {t t' : List (Option (List Nat))} (h : Prg onto xs b t) (h2 : ∀ ys, matchF onto (x :: ys) b t = matchF onto ys b' t') : Prg onto (xs ++ [x]) b' t' := fun ys => by
  rw [List.append_assoc]
  exact (h (x :: ys)).trans (h2 ys)
/-- what is told is what the pairs are on one side -/
def TIp (f : List Nat × List Nat → List Nat) (t : List (Option (List Nat))) (ps : List (List Nat × List Nat)) : Prop := t.length = 8 ∧ ∀ j, j < 8 → t.getD j none = (ps[j]?).map f
theorem TIp.nil (f : List Nat × List Nat → List Nat) : TIp f (List.replicate 8 none) [] := ⟨List.length_replicate, fun j hj => by
  have : ∀ j, j < 8 → (List.replicate 8 (none : Option (List Nat))).getD j none = none := by decide
  rw [this j hj]
  rfl⟩
theorem TIp.add {f : List Nat × List Nat → List Nat} {t : List (Option (List Nat))} {ps : List (List Nat × List Nat)} (h : TIp f t ps) (q : List Nat × List Nat) (hi : idxP q ps < 8) : (t.getD (idxP q ps) none = none ∨ t.getD (idxP q ps) none = some (f q)) ∧ TIp f (t.set (idxP q ps) (some (f q))) (if idxP q ps < ps.length then ps else ps ++ [q]) := by
  have hg : ∀ j, (t.set (idxP q ps) (some (f q))).getD j none = if idxP q ps = j then some (f q) else t.getD j none := fun j => by
    rw [List.getD_eq_getElem?_getD, List.getD_eq_getElem?_getD, List.getElem?_set]
    by_cases e : idxP q ps = j
    · rw [if_pos e, if_pos e, if_pos (by rw [h.1]; omega)]
      rfl
    · rw [if_neg e, if_neg e]
  by_cases c : idxP q ps < ps.length
  · have e := idxP_eq q ps c
    rw [if_pos c]
    refine ⟨Or.inr (by rw [h.2 _ hi, e]; rfl), by rw [List.length_set]; exact h.1, fun j hj => ?_⟩
    rw [hg]
    by_cases ej : idxP q ps = j
    · rw [if_pos ej, ← ej, e]
      rfl
    · rw [if_neg ej]
      exact h.2 j hj
  · have le := idxP_le q ps
    have e : idxP q ps = ps.length := by omega
    rw [if_neg c]
    refine ⟨Or.inl (by rw [h.2 _ hi, List.getElem?_eq_none (by omega)]; rfl), by rw [List.length_set]; exact h.1, fun j hj => ?_⟩
    rw [hg]
    by_cases ej : idxP q ps = j
    · rw [if_pos ej, ← ej, e, List.getElem?_concat_length]
      rfl
    · rw [if_neg ej, h.2 j hj]
      rcases Nat.lt_or_ge j ps.length with z | z
      · rw [List.getElem?_append_left z]
      · rw [List.getElem?_eq_none (by omega), List.getElem?_eq_none (by rw [List.length_append, List.length_singleton]; omega)]
end Uf31snd
section Uf32q7
/-! isSound() is so (printed by wip/q/genQ7.py) -/
/-- the steps stay when the classes go on -/
theorem STP.cl {B Q P : Nat → Nat} {ox : Nat} {kn d r : Int32} {h h' : AH} {F F' : Nat → TC} {X : List Nat} {S : SS} {ps : PL2} {tk en : Int32} (Y : LYO B Q) (C : CLS B Q P ox kn h F d r) (T : STP B Q P h F X S ps tk en) (f : FrU B Q (LCl P Q) h h') (S' : TS B Q h' F') (e : F' 50 = F 50) : STP B Q P h' F' X S ps tk en := by
  obtain ⟨a1, a2, a3, ⟨row, b1, b2, b3⟩, c1, c2, c3, ⟨xs, c4⟩, ys, c5⟩ := T
  obtain ⟨w14, -, e14⟩ := C.2.2.2.2.2.2.1 1 (by decide)
  have e14' : h (P 14) = some (4, [.ref (Q 66), .ref (Q 67), vI w14]) := e14
  have row0 := C.2.2.2.2.2.2.2
  have kp : ∀ {a k : Nat} {vs : List Value}, h a = some (k, vs) → k ≠ 7 → k ≠ 107 → a ≠ P 14 → h' a = some (k, vs) := fun {a k vs} ea h7 h107 hn => by
    rw [f a (fun i hi => ?_) (fun z => ?_)]
    · exact ea
    · obtain ⟨-, q1, xs, q2, -⟩ := a1 i hi
      exact ⟨k_ne ea q1 h7, k_ne ea q2 h107⟩
    · simp only [LCl, List.mem_cons, List.not_mem_nil, or_false] at z
      have kq : ∀ j, 60 ≤ j → j < 70 → a ≠ Q j := fun j h1 h2 => by
        obtain ⟨ws, e2, -⟩ := row0 j h1 h2
        exact k_ne ea e2 h107
      rcases z with z | z | z | z | z | z
      · exact hn z
      · exact kq 61 (by decide) (by decide) z
      · exact kq 62 (by decide) (by decide) z
      · exact kq 63 (by decide) (by decide) z
      · exact kq 66 (by decide) (by decide) z
      · exact kq 67 (by decide) (by decide) z
  have kr : ∀ {j : Nat} {vs : List Value}, h (Q j) = some (107, vs) → 60 ≤ j → j < 70 → j ≠ 61 → j ≠ 62 → j ≠ 63 → j ≠ 66 → j ≠ 67 → h' (Q j) = some (107, vs) := fun {j vs} ea h1 h2 n1 n2 n3 n4 n5 => by
    rw [f (Q j) (fun i hi => ?_) (fun z => ?_)]
    · exact ea
    · obtain ⟨-, q1, xs, q2, -⟩ := a1 i hi
      exact ⟨k_ne ea q1 (by decide), fun z => by have := Y.2 _ _ (by omega) (by omega) z; omega⟩
    · simp only [LCl, List.mem_cons, List.not_mem_nil, or_false] at z
      rcases z with z | z | z | z | z | z
      · exact k_ne ea e14' (by decide) z
      · exact n1 (Y.2 _ _ h2 (by decide) z)
      · exact n2 (Y.2 _ _ h2 (by decide) z)
      · exact n3 (Y.2 _ _ h2 (by decide) z)
      · exact n4 (Y.2 _ _ h2 (by decide) z)
      · exact n5 (Y.2 _ _ h2 (by decide) z)
  have hne : P 13 ≠ P 14 := SCR.pne Y C.2.2.2 (i := 0) (j := 1) (by decide) (by decide) (by decide)
  refine ⟨S', by rw [e]; exact a2, kp a3 (by decide) (by decide) (k_ne a3 e14' (by decide)), ⟨row, kr b1 (by decide) (by decide) (by decide) (by decide) (by decide) (by decide) (by decide), b2, b3⟩, c1, c2, kp c3 (by decide) (by decide) hne, ⟨xs, kr c4.1 (by decide) (by decide) (by decide) (by decide) (by decide) (by decide) (by decide), c4.2⟩, ys, kr c5.1 (by decide) (by decide) (by decide) (by decide) (by decide) (by decide) (by decide), c5.2⟩
section Q32
variable {la : Launch} {D : va_G} {cA : Nat → ClassId} {B0 pa : Nat} {B Q P : Nat → Nat} {ox : Nat} {kn d r : Int32} {F : Nat → TC}
end Q32
end Uf32q7
