section Uf04st0
/-! a new object of the class holds the first state -/
def slI0 : List (List Nat) := [[0], [1], [2], [3], [4], [5]]
def rw0 : List (List Nat) := [[0], [1], [2], [3], [4], [5], [6], [7]]
def st0 : ST := (slI0, [rw0, rw0, rw0], 0, 0)
theorem sl0_get : ∀ j, j < 6 → slI0[j]? = some [j] := by decide
theorem rw0_get : ∀ j, j < 8 → rw0[j]? = some [j] := by decide
theorem st0_ok : StO st0 := ⟨rfl, fun z hz => by
  obtain ⟨j, hj⟩ := List.getElem?_of_mem hz
  have h6 : j < 6 := (List.getElem?_eq_some_iff.mp hj).1
  have hj' : slI0[j]? = some z := hj
  rw [sl0_get j h6] at hj'
  cases hj'
  exact ⟨TW.name (by omega), Nat.le_of_ble_eq_true rfl⟩, rfl, fun rows hr => by
  have hr' : rows ∈ [rw0, rw0, rw0] := hr
  have e : rows = rw0 := by simpa using hr'
  rw [e]
  exact AO_none⟩
theorem exBd : ∀ xs : List Nat, ∃ M, ∀ x ∈ xs, x < M
  | [] => ⟨0, fun x hx => by cases hx⟩
  | y :: r => by
    obtain ⟨M, hM⟩ := exBd r
    refine ⟨M + y + 1, fun x hx => ?_⟩
    rcases List.mem_cons.mp hx with rfl | hx
    · omega
    · have := hM x hx
      omega
def sgI (i : Nat) : Nat := if i < 30 then i + 22 else i - 30
def piI (j : Nat) : Nat := [0, 3, 4, 5, 1, 2, 6, 7, 8, 9].getD j 0
theorem piI_ok : ∀ j, j < 10 → piI j < 10 ∧ ∀ i, i < 10 → piI i = piI j → i = j := by decide
theorem nd_getD {xs : List Nat} (h : xs.Nodup) {i j : Nat} (hi : i < xs.length) (hj : j < xs.length) (e : xs.getD i 0 = xs.getD j 0) : i = j := by
  rw [List.getD_eq_getElem?_getD, List.getD_eq_getElem?_getD, List.getElem?_eq_getElem hi, List.getElem?_eq_getElem hj] at e
  exact (List.getElem_inj h).mp e
theorem mem_getD {xs : List Nat} {i : Nat} (hi : i < xs.length) : xs.getD i 0 ∈ xs := by
  rw [List.getD_eq_getElem?_getD, List.getElem?_eq_getElem hi]
  exact List.getElem_mem hi
theorem T4_get {T : List T4} {i : Nat} {x : T4} (h : T[i]? = some x) : (T.map (fun t => t.1)).getD i 0 = x.1 ∧ (T.map (fun t => t.2.1)).getD i 0 = x.2.1 := by
  rw [List.getD_eq_getElem?_getD, List.getD_eq_getElem?_getD, List.getElem?_map, List.getElem?_map, h]
  exact ⟨rfl, rfl⟩
/-- terms and rows that are apart make the class's layout -/
theorem KL_lay {ex : Nat → Prop} {h h' : AH} {T : List T4} {R : List (Nat × Nat)} (K : KL ex h h' T R) (hT : T.length = 52) (hR : R.length = 10) : ∃ B Q : Nat → Nat, LYO B Q ∧ (∀ i x, i < 52 → T[sgI i]? = some x → B i = x.1 ∧ Q i = x.2.1) ∧ ∀ j x, j < 10 → R[piI j]? = some x → Q (60 + j) = x.1 := by
  obtain ⟨k1, k2, k3, k4, k5, k6, k7⟩ := K
  obtain ⟨M, hM⟩ := exBd (T.map (fun t => t.2.1) ++ R.map (fun r => r.1))
  have l1 : (T.map (fun t => t.1)).length = 52 := by rw [List.length_map]; exact hT
  have l2 : (T.map (fun t => t.2.1)).length = 52 := by rw [List.length_map]; exact hT
  have l3 : (R.map (fun r => r.1)).length = 10 := by rw [List.length_map]; exact hR
  have sg : ∀ i, i < 52 → sgI i < 52 := fun i hi => by unfold sgI; split <;> omega
  have sgi : ∀ i j, i < 52 → j < 52 → sgI i = sgI j → i = j := fun i j hi hj e => by
    unfold sgI at e
    split at e <;> split at e <;> omega
  refine ⟨fun i => (T.map (fun t => t.1)).getD (sgI i) 0, fun i => if i < 52 then (T.map (fun t => t.2.1)).getD (sgI i) 0 else if i < 60 then M + i else (R.map (fun r => r.1)).getD (piI (i - 60)) 0, ⟨fun i j hi hj e => ?_, fun i j hi hj e => ?_⟩, fun i x hi hx => ?_, fun j x hj hx => ?_⟩
  · exact sgi i j hi hj (nd_getD k2 (by rw [l1]; exact sg i hi) (by rw [l1]; exact sg j hj) e)
  · have mt : ∀ i, i < 52 → (T.map (fun t => t.2.1)).getD (sgI i) 0 < M := fun i hi => hM _ (List.mem_append_left _ (mem_getD (by rw [l2]; exact sg i hi)))
    have mr : ∀ i, 60 ≤ i → i < 70 → (R.map (fun r => r.1)).getD (piI (i - 60)) 0 < M := fun i h1 h2 => hM _ (List.mem_append_right _ (mem_getD (by rw [l3]; exact (piI_ok _ (by omega)).1)))
    have ap : ∀ i j, i < 52 → 60 ≤ j → j < 70 → (T.map (fun t => t.2.1)).getD (sgI i) 0 ≠ (R.map (fun r => r.1)).getD (piI (j - 60)) 0 := fun i j hi h1 h2 z => by
      obtain ⟨t, ht, e1⟩ := List.mem_map.mp (mem_getD (xs := T.map (fun t => t.2.1)) (i := sgI i) (by rw [l2]; exact sg i hi))
      obtain ⟨r, hr, e2⟩ := List.mem_map.mp (mem_getD (xs := R.map (fun r => r.1)) (i := piI (j - 60)) (by rw [l3]; exact (piI_ok _ (by omega)).1))
      exact k5 t ht r hr (by rw [e1, e2]; exact z)
    dsimp only at e
    by_cases i1 : i < 52
    · rw [if_pos i1] at e
      have m1 := mt i i1
      by_cases j1 : j < 52
      · rw [if_pos j1] at e
        exact sgi i j i1 j1 (nd_getD k3 (by rw [l2]; exact sg i i1) (by rw [l2]; exact sg j j1) e)
      · rw [if_neg j1] at e
        by_cases j2 : j < 60
        · rw [if_pos j2] at e
          omega
        · rw [if_neg j2] at e
          exact absurd e (ap i j i1 (by omega) hj)
    · rw [if_neg i1] at e
      by_cases i2 : i < 60
      · rw [if_pos i2] at e
        by_cases j1 : j < 52
        · rw [if_pos j1] at e
          have := mt j j1
          omega
        · rw [if_neg j1] at e
          by_cases j2 : j < 60
          · rw [if_pos j2] at e
            omega
          · rw [if_neg j2] at e
            have := mr j (by omega) hj
            omega
      · rw [if_neg i2] at e
        have m1 := mr i (by omega) hi
        by_cases j1 : j < 52
        · rw [if_pos j1] at e
          exact absurd e.symm (ap j i j1 (by omega) hi)
        · rw [if_neg j1] at e
          by_cases j2 : j < 60
          · rw [if_pos j2] at e
            omega
          · rw [if_neg j2] at e
            have e1 := nd_getD k4 (by rw [l3]; exact (piI_ok (i - 60) (by omega)).1) (by rw [l3]; exact (piI_ok (j - 60) (by omega)).1) e
            have := (piI_ok (j - 60) (by omega)).2 (i - 60) (by omega) e1
            omega
  · dsimp only
    rw [if_pos hi]
    exact T4_get hx
  · dsimp only
    rw [if_neg (by omega), if_neg (by omega), Nat.add_sub_cancel_left, List.getD_eq_getElem?_getD, List.getElem?_map, hx]
    rfl
theorem rg_eq {B : Nat → Nat} {f n : Nat} {xs : List T4} (hl : xs.length = n) (h : ∀ i x, i < n → xs[i]? = some x → B (f + i) = x.1) : xs.map (fun t => t.1) = rgB B f n := by
  refine List.ext_getElem? (fun i => ?_)
  rcases Nat.lt_or_ge i n with c | c
  · obtain ⟨x, hx⟩ : ∃ x, xs[i]? = some x := ⟨_, List.getElem?_eq_getElem (by omega)⟩
    rw [List.getElem?_map, hx, rgB_get B f c, h i x c hx]
    rfl
  · rw [List.getElem?_eq_none (by rw [List.length_map]; omega), List.getElem?_eq_none (by unfold rgB; rw [List.length_map, List.length_range]; exact c)]
theorem apR {l1 l2 : List T4} {k j : Nat} (h : l1.length = k) : (l1 ++ l2)[k + j]? = l2[j]? := by
  rw [← h, List.getElem?_append_right (Nat.le_add_right _ _), Nat.add_sub_cancel_left]
theorem apL {l1 l2 : List T4} {j : Nat} (h : j < l1.length) : (l1 ++ l2)[j]? = l1[j]? := List.getElem?_append_left h
set_option maxHeartbeats 4000000 in
theorem new6_st {o : Nat} {h h' : AH} {S A u1 u2 u3 u4 u5 u6 u7 u8 u9 q1 q2 q3 q4 ar5 ar6 b7 c7 r7 p7 d7 e7 b8 c8 r8 s8 f8 p8 d8 e8 p9 d9 e9 : Nat} {t5 t6 tS : List T4} {N : List (Nat × Nat × List T4)} (ho : h' o = some (8, [.ref S, .ref A, .int 0, .int 0, .int 0, .ref u1, .ref u2, .ref u3, .ref u4, .ref u5, .ref u6, .ref u7, .ref u8, .ref u9])) (hS : h' S = some (103, (tS.map (fun t => t.1)).map Value.ref)) (hA : h' A = some (104, (N.map (fun x => x.1)).map Value.ref)) (hT : Tn8 6 tS) (hN : N.length = 3)
    (OO : OB (fun a => a = o) h' ((((((((([] ++ []) ++ []) ++ []) ++ []) ++ []) ++ []) ++ [(u7, (6, [.ref b7, .ref r7, .ref p7, .int 0, .int 0])), (p7, (4, [.ref d7, .ref e7, vI 0]))]) ++ [(u8, (3, [.ref b8, .ref r8, .ref s8, .ref f8, .ref p8])), (p8, (4, [.ref d8, .ref e8, vI 0]))]) ++ [(u9, (5, [.ref p9])), (p9, (4, [.ref d9, .ref e9, vI 0]))]))
    (LL : AL (fun a => a = o) h' (((((((((([] ++ []) ++ []) ++ []) ++ []) ++ [(u5, ar5, t5)]) ++ [(u6, ar6, t6)]) ++ []) ++ []) ++ []) ++ N))
    (K : KL (fun a => a = o) h h' ((((((((((([] ++ [(u1, q1, 16, ([], false))]) ++ [(u2, q2, 16, ([], false))]) ++ [(u3, q3, 256, ([], false))]) ++ [(u4, q4, 256, ([], false))]) ++ t5) ++ t6) ++ [(b7, c7, 32, ([], false))]) ++ [(b8, c8, 32, ([], false))]) ++ []) ++ tS) ++ N.flatMap (fun x => x.2.2)) ((((((((([] ++ []) ++ []) ++ []) ++ []) ++ []) ++ []) ++ [(r7, 8), (d7, 128), (e7, 128)]) ++ [(r8, 32), (s8, 32), (f8, 8), (d8, 128), (e8, 128)]) ++ [(d9, 128), (e9, 128)])) :
    ∃ B Q P : Nat → Nat, LYO B Q ∧ StC B Q P o 0 h' st0 ∧ ∀ (a : Nat) (c : AC), a ≠ o → h a = some c → h' a = some c := by
  obtain ⟨y0, y1, y2, rfl⟩ : ∃ y0 y1 y2, N = [y0, y1, y2] := by
    match N, hN with
    | [y0, y1, y2], _ => exact ⟨y0, y1, y2, rfl⟩
  obtain ⟨a0, x0, n0⟩ := y0
  obtain ⟨a1, x1, n1⟩ := y1
  obtain ⟨a2, x2, n2⟩ := y2
  have L5 := LL (u5, ar5, t5) (by simp)
  have L6 := LL (u6, ar6, t6) (by simp)
  have M0 := LL (a0, x0, n0) (by simp)
  have M1 := LL (a1, x1, n1) (by simp)
  have M2 := LL (a2, x2, n2) (by simp)
  have O7 := (OO (u7, (6, [.ref b7, .ref r7, .ref p7, .int 0, .int 0])) (by simp)).2
  have O7p := (OO (p7, (4, [.ref d7, .ref e7, vI 0])) (by simp)).2
  have O8 := (OO (u8, (3, [.ref b8, .ref r8, .ref s8, .ref f8, .ref p8])) (by simp)).2
  have O8p := (OO (p8, (4, [.ref d8, .ref e8, vI 0])) (by simp)).2
  have O9 := (OO (u9, (5, [.ref p9])) (by simp)).2
  have O9p := (OO (p9, (4, [.ref d9, .ref e9, vI 0])) (by simp)).2
  have Hfr := K.1
  have eT : ((((((((((([] ++ [(u1, q1, 16, ([], false))]) ++ [(u2, q2, 16, ([], false))]) ++ [(u3, q3, 256, ([], false))]) ++ [(u4, q4, 256, ([], false))]) ++ t5) ++ t6) ++ [(b7, c7, 32, ([], false))]) ++ [(b8, c8, 32, ([], false))]) ++ []) ++ tS) ++ List.flatMap (fun x : Nat × Nat × List T4 => x.2.2) [(a0, x0, n0), (a1, x1, n1), (a2, x2, n2)] : List T4) = [(u1, q1, 16, ([], false)), (u2, q2, 16, ([], false)), (u3, q3, 256, ([], false)), (u4, q4, 256, ([], false))] ++ (t5 ++ (t6 ++ ([(b7, c7, 32, ([], false)), (b8, c8, 32, ([], false))] ++ (tS ++ (n0 ++ (n1 ++ n2)))))) := by simp
  have eR : (((((((((([] ++ []) ++ []) ++ []) ++ []) ++ []) ++ []) ++ [(r7, 8), (d7, 128), (e7, 128)]) ++ [(r8, 32), (s8, 32), (f8, 8), (d8, 128), (e8, 128)]) ++ [(d9, 128), (e9, 128)]) : List (Nat × Nat)) = [(r7, 8), (d7, 128), (e7, 128), (r8, 32), (s8, 32), (f8, 8), (d8, 128), (e8, 128), (d9, 128), (e9, 128)] := rfl
  rw [eT, eR] at K
  have g5 : t5.length = 8 := L5.1.1
  have g6 : t6.length = 8 := L6.1.1
  have gS : tS.length = 6 := hT.1
  have m0 : n0.length = 8 := M0.1.1
  have m1 : n1.length = 8 := M1.1.1
  have m2 : n2.length = 8 := M2.1.1
  have hTl : ([(u1, q1, 16, ([], false)), (u2, q2, 16, ([], false)), (u3, q3, 256, ([], false)), (u4, q4, 256, ([], false))] ++ (t5 ++ (t6 ++ ([(b7, c7, 32, ([], false)), (b8, c8, 32, ([], false))] ++ (tS ++ (n0 ++ (n1 ++ n2)))))) : List T4).length = 52 := by
    simp only [List.length_append, List.length_cons, List.length_nil, g5, g6, gS, m0, m1, m2]
  obtain ⟨B, Q, Y, hB, hQ⟩ := KL_lay K hTl rfl
  generalize hTT : ([(u1, q1, 16, ([], false)), (u2, q2, 16, ([], false)), (u3, q3, 256, ([], false)), (u4, q4, 256, ([], false))] ++ (t5 ++ (t6 ++ ([(b7, c7, 32, ([], false)), (b8, c8, 32, ([], false))] ++ (tS ++ (n0 ++ (n1 ++ n2)))))) : List T4) = T at K hTl hB
  have w4 : ∀ j, T[4 + j]? = (t5 ++ (t6 ++ ([(b7, c7, 32, ([], false)), (b8, c8, 32, ([], false))] ++ (tS ++ (n0 ++ (n1 ++ n2))))))[j]? := fun j => by rw [← hTT]; exact apR rfl
  have w12 : ∀ j, T[12 + j]? = (t6 ++ ([(b7, c7, 32, ([], false)), (b8, c8, 32, ([], false))] ++ (tS ++ (n0 ++ (n1 ++ n2)))))[j]? := fun j => by rw [show 12 + j = 4 + (8 + j) by omega, w4]; exact apR g5
  have w20 : ∀ j, T[20 + j]? = ([(b7, c7, 32, ([], false)), (b8, c8, 32, ([], false))] ++ (tS ++ (n0 ++ (n1 ++ n2))))[j]? := fun j => by rw [show 20 + j = 12 + (8 + j) by omega, w12]; exact apR g6
  have w22 : ∀ j, T[22 + j]? = (tS ++ (n0 ++ (n1 ++ n2)))[j]? := fun j => by rw [show 22 + j = 20 + (2 + j) by omega, w20]; exact apR rfl
  have w28 : ∀ j, T[28 + j]? = (n0 ++ (n1 ++ n2))[j]? := fun j => by rw [show 28 + j = 22 + (6 + j) by omega, w22]; exact apR gS
  have w36 : ∀ j, T[36 + j]? = (n1 ++ n2)[j]? := fun j => by rw [show 36 + j = 28 + (8 + j) by omega, w28]; exact apR m0
  have w44 : ∀ j, T[44 + j]? = n2[j]? := fun j => by rw [show 44 + j = 36 + (8 + j) by omega, w36]; exact apR m1
  have v5 : ∀ j, j < 8 → T[4 + j]? = t5[j]? := fun j hj => by rw [w4]; exact apL (by omega)
  have v6 : ∀ j, j < 8 → T[12 + j]? = t6[j]? := fun j hj => by rw [w12]; exact apL (by omega)
  have vS : ∀ j, j < 6 → T[22 + j]? = tS[j]? := fun j hj => by rw [w22]; exact apL (by omega)
  have v0 : ∀ j, j < 8 → T[28 + j]? = n0[j]? := fun j hj => by rw [w28]; exact apL (by omega)
  have v1 : ∀ j, j < 8 → T[36 + j]? = n1[j]? := fun j hj => by rw [w36]; exact apL (by omega)
  have z0 : T[0]? = some (u1, q1, 16, ([], false)) := by rw [← hTT]; rfl
  have z1 : T[1]? = some (u2, q2, 16, ([], false)) := by rw [← hTT]; rfl
  have z2 : T[2]? = some (u3, q3, 256, ([], false)) := by rw [← hTT]; rfl
  have z3 : T[3]? = some (u4, q4, 256, ([], false)) := by rw [← hTT]; rfl
  have z20 : T[20]? = some (b7, c7, 32, ([], false)) := w20 0
  have z21 : T[21]? = some (b8, c8, 32, ([], false)) := w20 1
  have dS : ∀ j, j < 6 → ∃ b q, T[sgI j]? = some (b, q, 16, ([nI j], false)) := fun j hj => by
    obtain ⟨b, q, e⟩ := hT.2 j hj
    exact ⟨b, q, by rw [show sgI j = 22 + j by unfold sgI; rw [if_pos (by omega)]; omega, vS j hj]; exact e⟩
  have dN : ∀ k, k < 3 → ∀ j, j < 8 → ∃ b q, T[sgI (6 + 8 * k + j)]? = some (b, q, 16, ([nI j], false)) := fun k hk j hj => by
    have es : sgI (6 + 8 * k + j) = 28 + 8 * k + j := by unfold sgI; rw [if_pos (by omega)]; omega
    rw [es]
    match k, hk with
    | 0, _ => obtain ⟨b, q, e⟩ := M0.1.2 j hj; exact ⟨b, q, by rw [show 28 + 8 * 0 + j = 28 + j by omega, v0 j hj]; exact e⟩
    | 1, _ => obtain ⟨b, q, e⟩ := M1.1.2 j hj; exact ⟨b, q, by rw [show 28 + 8 * 1 + j = 36 + j by omega, v1 j hj]; exact e⟩
    | 2, _ => obtain ⟨b, q, e⟩ := M2.1.2 j hj; exact ⟨b, q, by rw [show 28 + 8 * 2 + j = 44 + j by omega, w44]; exact e⟩
  have dX : ∀ i, i < 52 → ∃ x : T4, T[sgI i]? = some x ∧ x.2.2.1 = rmI i := fun i hi => by
    rcases Nat.lt_or_ge i 6 with c | c
    · obtain ⟨b, q, e⟩ := dS i c
      exact ⟨_, e, by unfold rmI; rw [if_pos (by omega)]⟩
    · rcases Nat.lt_or_ge i 30 with c2 | c2
      · obtain ⟨b, q, e⟩ := dN ((i - 6) / 8) (by omega) ((i - 6) % 8) (by omega)
        rw [show 6 + 8 * ((i - 6) / 8) + (i - 6) % 8 = i by omega] at e
        exact ⟨_, e, by unfold rmI; rw [if_pos (by omega)]⟩
      · have es : sgI i = i - 30 := by unfold sgI; rw [if_neg (by omega)]
        rw [es]
        rcases Nat.lt_or_ge i 34 with c3 | c3
        · rcases (show i = 30 ∨ i = 31 ∨ i = 32 ∨ i = 33 by omega) with rfl | rfl | rfl | rfl
          · exact ⟨_, z0, rfl⟩
          · exact ⟨_, z1, rfl⟩
          · exact ⟨_, z2, rfl⟩
          · exact ⟨_, z3, rfl⟩
        · have r16 : i < 50 → (16 : Nat) = rmI i := fun h => by unfold rmI; rw [if_neg (by omega), if_neg (by omega), if_pos h]
          rcases Nat.lt_or_ge i 42 with c4 | c4
          · obtain ⟨b, q, e⟩ := L5.1.2 (i - 34) (by omega)
            exact ⟨(b, q, 16, ([nI (i - 34)], false)), by rw [show i - 30 = 4 + (i - 34) by omega, v5 _ (by omega)]; exact e, r16 (by omega)⟩
          · rcases Nat.lt_or_ge i 50 with c5 | c5
            · obtain ⟨b, q, e⟩ := L6.1.2 (i - 42) (by omega)
              exact ⟨(b, q, 16, ([nI (i - 42)], false)), by rw [show i - 30 = 12 + (i - 42) by omega, v6 _ (by omega)]; exact e, r16 (by omega)⟩
            · rcases (show i = 50 ∨ i = 51 by omega) with rfl | rfl
              · exact ⟨_, z20, rfl⟩
              · exact ⟨_, z21, rfl⟩
  have TSx : TS B Q h' (fun i => ((T[sgI i]?).map (fun t => t.2.2.2)).getD ([], false)) := fun i hi => by
    obtain ⟨x, hx, hr⟩ := dX i hi
    obtain ⟨eb, eq⟩ := hB i x hi hx
    have tm := (K.2.2.2.2.2.1 x (List.mem_of_getElem? hx)).2.2.2.2
    dsimp only
    rw [hx, eb, eq, ← hr]
    exact tm
  have b30 : B 30 = u1 := (hB 30 _ (by decide) z0).1
  have b31 : B 31 = u2 := (hB 31 _ (by decide) z1).1
  have b32 : B 32 = u3 := (hB 32 _ (by decide) z2).1
  have b33 : B 33 = u4 := (hB 33 _ (by decide) z3).1
  have b50 : B 50 = b7 := (hB 50 _ (by decide) z20).1
  have b51 : B 51 = b8 := (hB 51 _ (by decide) z21).1
  have q60 : Q 60 = r7 := hQ 0 _ (by decide) rfl
  have q61 : Q 61 = r8 := hQ 1 _ (by decide) rfl
  have q62 : Q 62 = s8 := hQ 2 _ (by decide) rfl
  have q63 : Q 63 = f8 := hQ 3 _ (by decide) rfl
  have q64 : Q 64 = d7 := hQ 4 _ (by decide) rfl
  have q65 : Q 65 = e7 := hQ 5 _ (by decide) rfl
  have q66 : Q 66 = d8 := hQ 6 _ (by decide) rfl
  have q67 : Q 67 = e8 := hQ 7 _ (by decide) rfl
  have q68 : Q 68 = d9 := hQ 8 _ (by decide) rfl
  have q69 : Q 69 = e9 := hQ 9 _ (by decide) rfl
  have eS : tS.map (fun t => t.1) = rgB B 0 6 := rg_eq gS (fun i x hi hx => by rw [Nat.zero_add]; exact (hB i x (by omega) (by rw [show sgI i = 22 + i by unfold sgI; rw [if_pos (by omega)]; omega, vS i hi]; exact hx)).1)
  have e0 : n0.map (fun t => t.1) = rgB B (6 + 8 * 0) 8 := rg_eq m0 (fun i x hi hx => (hB _ x (by omega) (by rw [show sgI (6 + 8 * 0 + i) = 28 + i by unfold sgI; rw [if_pos (by omega)]; omega, v0 i hi]; exact hx)).1)
  have e1 : n1.map (fun t => t.1) = rgB B (6 + 8 * 1) 8 := rg_eq m1 (fun i x hi hx => (hB _ x (by omega) (by rw [show sgI (6 + 8 * 1 + i) = 36 + i by unfold sgI; rw [if_pos (by omega)]; omega, v1 i hi]; exact hx)).1)
  have e2 : n2.map (fun t => t.1) = rgB B (6 + 8 * 2) 8 := rg_eq m2 (fun i x hi hx => (hB _ x (by omega) (by rw [show sgI (6 + 8 * 2 + i) = 44 + i by unfold sgI; rw [if_pos (by omega)]; omega, w44]; exact hx)).1)
  have e5 : t5.map (fun t => t.1) = rgB B 34 8 := rg_eq g5 (fun i x hi hx => (hB _ x (by omega) (by rw [show sgI (34 + i) = 4 + i by unfold sgI; rw [if_neg (by omega)]; omega, v5 i hi]; exact hx)).1)
  have e6 : t6.map (fun t => t.1) = rgB B 42 8 := rg_eq g6 (fun i x hi hx => (hB _ x (by omega) (by rw [show sgI (42 + i) = 12 + i by unfold sgI; rw [if_neg (by omega)]; omega, v6 i hi]; exact hx)).1)
  have rws : ∀ x ∈ ([(r7, 8), (d7, 128), (e7, 128), (r8, 32), (s8, 32), (f8, 8), (d8, 128), (e8, 128), (d9, 128), (e9, 128)] : List (Nat × Nat)), ∃ xs : List Int32, h' x.1 = some (107, xs.map Value.int) ∧ xs.length = x.2 := fun x hx => (K.2.2.2.2.2.2 x hx).2.2
  refine ⟨B, Q, fun i => [S, A, u5, u6, u7, u8, u9, a0, a1, a2, 0, 0, 0, p7, p8, p9].getD i 0, Y, ⟨_, ⟨TSx, ?_, ⟨?_, ?_, fun k hk => ?_, ?_, ?_⟩, ⟨0, 0, ?_⟩, ?_, ?_, fun k hk => ?_, fun j h1 h2 => ?_⟩, ⟨fun j hj => ?_, fun k hk => ?_⟩, st0_ok⟩, Hfr⟩
  · show h' o = some (8, [.ref S, .ref A, .int 0, .int 0, .int 0, .ref (B 30), .ref (B 31), .ref (B 32), .ref (B 33), .ref u5, .ref u6, .ref u7, .ref u8, .ref u9])
    rw [b30, b31, b32, b33]
    exact ho
  · show h' S = _
    rw [← eS]
    exact hS
  · show h' A = some (104, ([a0, a1, a2] : List Nat).map Value.ref)
    exact hA
  · match k, hk with
    | 0, _ => exact ⟨by decide, x0, M0.2.2.2.1, by rw [← e0]; exact M0.2.2.2.2⟩
    | 1, _ => exact ⟨by decide, x1, M1.2.2.2.1, by rw [← e1]; exact M1.2.2.2.2⟩
    | 2, _ => exact ⟨by decide, x2, M2.2.2.2.1, by rw [← e2]; exact M2.2.2.2.2⟩
  · exact ⟨by decide, ar5, L5.2.2.2.1, by rw [← e5]; exact L5.2.2.2.2⟩
  · exact ⟨by decide, ar6, L6.2.2.2.1, by rw [← e6]; exact L6.2.2.2.2⟩
  · show h' u7 = some (6, [.ref (B 50), .ref (Q 60), .ref p7, .int 0, .int 0])
    rw [b50, q60]
    exact O7
  · show h' u8 = some (3, [.ref (B 51), .ref (Q 61), .ref (Q 62), .ref (Q 63), .ref p8])
    rw [b51, q61, q62, q63]
    exact O8
  · exact O9
  · match k, hk with
    | 0, _ => exact ⟨0, by decide, by show h' p7 = some (4, [.ref (Q 64), .ref (Q 65), vI 0]); rw [q64, q65]; exact O7p⟩
    | 1, _ => exact ⟨0, by decide, by show h' p8 = some (4, [.ref (Q 66), .ref (Q 67), vI 0]); rw [q66, q67]; exact O8p⟩
    | 2, _ => exact ⟨0, by decide, by show h' p9 = some (4, [.ref (Q 68), .ref (Q 69), vI 0]); rw [q68, q69]; exact O9p⟩
  · rcases (show j = 60 ∨ j = 61 ∨ j = 62 ∨ j = 63 ∨ j = 64 ∨ j = 65 ∨ j = 66 ∨ j = 67 ∨ j = 68 ∨ j = 69 by omega) with rfl | rfl | rfl | rfl | rfl | rfl | rfl | rfl | rfl | rfl
    · rw [q60]; exact rws (r7, 8) (by simp)
    · rw [q61]; exact rws (r8, 32) (by simp)
    · rw [q62]; exact rws (s8, 32) (by simp)
    · rw [q63]; exact rws (f8, 8) (by simp)
    · rw [q64]; exact rws (d7, 128) (by simp)
    · rw [q65]; exact rws (e7, 128) (by simp)
    · rw [q66]; exact rws (d8, 128) (by simp)
    · rw [q67]; exact rws (e8, 128) (by simp)
    · rw [q68]; exact rws (d9, 128) (by simp)
    · rw [q69]; exact rws (e9, 128) (by simp)
  · obtain ⟨b, q, e⟩ := dS j hj
    exact ⟨[j], sl0_get j hj, by dsimp only; rw [e]; rfl⟩
  · refine ⟨rw0, ?_, rfl, fun n hn => ?_⟩
    · match k, hk with
      | 0, _ => rfl
      | 1, _ => rfl
      | 2, _ => rfl
    · obtain ⟨b, q, e⟩ := dN k hk n hn
      exact ⟨[n], rw0_get n hn, by dsimp only; rw [e]; rfl, TW.name hn, Nat.le_of_ble_eq_true rfl⟩
end Uf04st0
section Uf05ref0
/-! the reference's constructor, exactly (printed by wip/p20/genN4.py) -/
section F05
variable {la : Launch} {D : va_G} {cA : Nat → ClassId} {B0 pa : Nat} {o : Nat}
set_option maxHeartbeats 8000000 in
theorem RF.c_init10 (h : AH) (ho : h o = some (12, [.null, .null, .int 0, .int 0, .int 0, .int 0])) : CT la D cA B0 pa yX10_init cX10_init 2 none (rmD 2 35 63) [.ref o] h (fun v h' => v = none ∧ (∃ S A, h S = none ∧ h A = none ∧ MD h' o S A st0.1 st0.2.1 0 0 0 0) ∧ Fo o h h') := by
  refine CT_of (by decide +kernel) (Nat.le_of_ble_eq_true rfl) ?_
  intro p e s m args below meth c X E hr hlk hnm
  have dk : ∀ {pc : Nat} {q : Instr × Nat}, lkd DX10_init pc = some q → decode cX10_init pc = .ok q := lkd_ok DX10_init_ok
  repeat refine fst1_ok X (dk rfl) rfl ?_
  refine obj_ok X ml10_obj (dk rfl) (Nat.le_of_ble_eq_true rfl) (Nat.le_of_ble_eq_true rfl) (Nat.le_of_ble_eq_true rfl) ?_
  repeat refine fst1_ok X (dk rfl) rfl ?_
  refine newR_ok (N := 6) (kd := 105) X E (by decide) cl10_9 (by decide) (dk rfl) (by decide) (by decide) (fun S hS hBS => ?_)
  have XS := Ext.new hS ((105, List.replicate 6 Value.null) : AC)
  have hoS : o ≠ S := fun z => by rw [← z, ho] at hS; cases hS
  refine putf_ok X flX10_11 ftX10_0 (Or.inr ⟨by rw [hnm]; rfl, RX10, TX10, 6, rfl, rfl⟩) rfl rfl (dk rfl) (XS _ _ ho) (Nat.le_of_ble_eq_true rfl) ?_
  have ho1 : hup (hup h S (105, List.replicate 6 Value.null)) o (12, [Value.null, .null, .int 0, .int 0, .int 0, .int 0].set 0 (.ref S)) o = some (12, [Value.ref S, .null, .int 0, .int 0, .int 0, .int 0]) := hup_self _ _ _
  have hS1 : hup (hup h S (105, List.replicate 6 Value.null)) o (12, [Value.null, .null, .int 0, .int 0, .int 0, .int 0].set 0 (.ref S)) S = some (105, filR [] 6) := by rw [hup_ne _ _ hoS.symm, hup_self, filR_0]
  have F1 : Fo o h (hup (hup h S (105, List.replicate 6 Value.null)) o (12, [Value.null, .null, .int 0, .int 0, .int 0, .int 0].set 0 (.ref S))) := fun b c hb e => by rw [hup_ne _ _ hb]; exact XS _ _ e
  generalize hup (hup h S (105, List.replicate 6 Value.null)) o (12, [Value.null, .null, .int 0, .int 0, .int 0, .int 0].set 0 (.ref S)) = h1 at ho1 hS1 F1
  repeat refine fst1_ok X (dk rfl) rfl ?_
  refine newR_ok (N := 3) (kd := 106) X E (by decide) cl10_15 (by decide) (dk rfl) (Nat.le_of_ble_eq_true rfl) (Nat.le_of_ble_eq_true rfl) (fun A hA hBA => ?_)
  have XA := Ext.new hA ((106, List.replicate 3 Value.null) : AC)
  have hoA : o ≠ A := fun z => by rw [← z, ho1] at hA; cases hA
  have hSA : S ≠ A := fun z => by rw [← z, hS1] at hA; cases hA
  refine putf_ok X flX10_16 ftX10_1 (Or.inr ⟨by rw [hnm]; rfl, RX10, TX10, 6, rfl, rfl⟩) rfl rfl (dk rfl) (XA _ _ ho1) (Nat.le_of_ble_eq_true rfl) ?_
  have ho2 : hup (hup h1 A (106, List.replicate 3 Value.null)) o (12, [Value.ref S, .null, .int 0, .int 0, .int 0, .int 0].set 1 (.ref A)) o = some (12, [Value.ref S, .ref A, .int 0, .int 0, .int 0, .int 0]) := hup_self _ _ _
  have hA2 : hup (hup h1 A (106, List.replicate 3 Value.null)) o (12, [Value.ref S, .null, .int 0, .int 0, .int 0, .int 0].set 1 (.ref A)) A = some (106, filR [] 3) := by rw [hup_ne _ _ hoA.symm, hup_self, filR_0]
  have hS2 : hup (hup h1 A (106, List.replicate 3 Value.null)) o (12, [Value.ref S, .null, .int 0, .int 0, .int 0, .int 0].set 1 (.ref A)) S = some (105, filR [] 6) := by rw [hup_ne _ _ hoS.symm]; exact XA _ _ hS1
  have F2 : Fo o h (hup (hup h1 A (106, List.replicate 3 Value.null)) o (12, [Value.ref S, .null, .int 0, .int 0, .int 0, .int 0].set 1 (.ref A))) := fun b c hb e => by rw [hup_ne _ _ hb]; exact XA _ _ (F1 b c hb e)
  have hAn : h A = none := by
    cases hz : h A with
    | none => rfl
    | some c => have := F1 A c hoA.symm hz; rw [hA] at this; cases this
  generalize hup (hup h1 A (106, List.replicate 3 Value.null)) o (12, [Value.ref S, .null, .int 0, .int 0, .int 0, .int 0].set 1 (.ref A)) = h2 at ho2 hA2 hS2 F2
  -- the answers
  have loopA : ∀ (d i : Nat), d = 3 - i → i ≤ 3 → ∀ (hh : AH) (as : List Nat) (l : List (Nat × Value)), lsel l [1, 0] = [(1, vI i), (0, .ref o)] → as.length = i → hh o = some (12, [Value.ref S, .ref A, .int 0, .int 0, .int 0, .int 0]) → Ans hh S [[0], [1], [2], [3], [4], [5]] → hh A = some (106, filR as 3) → S ∉ as → (∀ k b : Nat, as[k]? = some b → Ans hh b [[0], [1], [2], [3], [4], [5], [6], [7]]) → Fo o h hh →
      WR p la e (rmD 2 35 63) s m args below meth c D cA B0 2 (fun v h' => v = none ∧ (∃ S A, h S = none ∧ h A = none ∧ MD h' o S A st0.1 st0.2.1 0 0 0 0) ∧ Fo o h h') 47 l [] hh (8 + 9 * i) (15 + 16 * i) := by
    intro d
    induction d with
    | zero =>
      intro i hd hi hh as l hl hla hoh hSh hAh hSn has FF
      have hi2 : i = 3 := by omega
      subst hi2
      refine WS.sel [1, 0] hl ?_
      repeat refine fst1_ok X (dk rfl) rfl ?_
      refine br_ok X (dk rfl) rfl (show ((49 : Nat) : Int) + 18 = ((67 : Nat) : Int) from rfl) (fun _ => ?_) (fun c1 => absurd (by decide) c1)
      refine retv_ok X hr hlk (dk rfl) ⟨rfl, ⟨S, A, hS, hAn, hoh, hSh, rfl, fun r hr => ?_, as, hla, rfl, by rw [hAh, ← hla, filR_end], hSn, fun k b rows e1 e2 => ?_⟩, FF⟩ (Nat.le_of_ble_eq_true rfl) (Nat.le_of_ble_eq_true rfl)
      · have hr : r ∈ ([[0], [1], [2], [3], [4], [5]] : List (List Nat)) := hr
        simp only [List.mem_cons, List.not_mem_nil, or_false] at hr
        rcases hr with rfl | rfl | rfl | rfl | rfl | rfl <;> exact ⟨TW.name (by omega), by decide⟩
      · have e2 : (List.replicate 3 rw0)[k]? = some rows := e2
        rw [List.getElem?_replicate] at e2
        split at e2
        · cases e2; exact ⟨has k b e1, AO_none⟩
        · cases e2
    | succ d ih =>
      intro i hd hi hh as l hl hla hoh hSh hAh hSn has FF
      have f2 : Value.int (nI i + Int32.ofInt 1) = vI (i + 1) := congrArg Value.int (by rw [nI_1', nI_add])
      refine WS.sel [1, 0] hl ?_
      repeat refine fst1_ok X (dk rfl) rfl ?_
      refine br_ok X (dk rfl) rfl (show ((49 : Nat) : Int) + 18 = ((67 : Nat) : Int) from rfl) (fun c1 => absurd c1 (nI_ge (a := i) (b := 3) (by omega) (by omega))) (fun _ => ?_)
      refine fst1_ok X (dk rfl) rfl ?_
      refine getf_ok X flX10_16 (dk rfl) hoh rfl ?_
      refine fst1_ok X (dk rfl) rfl ?_
      refine callS_ok (av := []) (r := [vI i, .ref A]) X E (c_none hh) lkX10_none mlX10_24 lsX10_none ⟨Nat.le_of_ble_eq_true rfl, Nat.le_of_ble_eq_true rfl⟩ ⟨by show 8 + 9 * i + 9 ≤ 35; omega, by show 15 + 16 * i + 16 ≤ 63; omega⟩ (Nat.le_of_ble_eq_true rfl) (dk rfl) ?_
      rintro v h3 ⟨N, rfl, hN, hBN, XN, nN⟩
      obtain ⟨vn, kn1⟩ := nN.kind
      obtain ⟨vS, kS⟩ := hSh.kind
      have hA3 := XN _ _ hAh
      refine sta_ok X (dk rfl) hA3 kn1 (by rw [filR_len (by omega)]; omega) (by rw [filR_len (by omega)]; omega) ?_
      rw [show (filR as 3).set i (.ref N) = filR (as ++ [N]) 3 by rw [← hla]; exact filR_set (by omega)]
      repeat refine fst1_ok X (dk rfl) rfl ?_
      refine br_ok X (dk rfl) rfl (show ((64 : Nat) : Int) + (-17) = ((47 : Nat) : Int) from rfl) (fun _ => ?_) (fun q => absurd trivial q)
      refine WS.widen (k' := 8 + 9 * (i + 1)) (n' := 15 + 16 * (i + 1)) (by show 8 + 9 * i + 9 ≤ 8 + 9 * (i + 1); omega) (by show 15 + 16 * i + 16 ≤ 15 + 16 * (i + 1); omega) ?_
      refine WS.sel (l' := [(1, vI (i + 1)), (0, .ref o)]) [1, 0] (by rw [← f2]; rfl) ?_
      have hAk : ∀ {b : Nat} {rows : List (List Nat)}, Ans h3 b rows → Ans (hup h3 A (106, filR (as ++ [N]) 3)) b rows := fun {b rows} H => by
        obtain ⟨vb, hb⟩ := H.kind
        exact H.hup (k_ne hA3 hb (by decide)) hA3 (by decide) _
      refine ih (i + 1) (by omega) (by omega) _ (as ++ [N]) _ rfl (by rw [List.length_append, hla]; rfl) (by rw [hup_ne _ _ (k_ne (XN _ _ hoh) hA3 (by decide))]; exact XN _ _ hoh) (hAk (hSh.ext XN)) (hup_self _ _ _) ?_ ?_ ?_
      · intro z
        rcases List.mem_append.mp z with q | q
        · exact hSn q
        · simp at q
          rw [← q, kS] at hN
          cases hN
      · intro k b hk
        rcases Nat.lt_or_ge k as.length with q | q
        · rw [List.getElem?_append_left q] at hk
          exact hAk ((has k b hk).ext XN)
        · have hk2 : k = as.length := by have := (List.getElem?_eq_some_iff.mp hk).1; rw [List.length_append, List.length_singleton] at this; omega
          rw [hk2, List.getElem?_concat_length] at hk
          cases hk
          exact hAk nN
      · intro b c hb e
        rw [hup_ne _ _ (fun z => by rw [z, hAn] at e; cases e)]
        exact XN _ _ (FF b c hb e)
  -- the slots
  have loopS : ∀ (d i : Nat), d = 6 - i → i ≤ 6 → ∀ (hh : AH) (as : List Nat) (l : List (Nat × Value)), lsel l [1, 0] = [(1, vI i), (0, .ref o)] → as.length = i → hh o = some (12, [Value.ref S, .ref A, .int 0, .int 0, .int 0, .int 0]) → hh S = some (105, filR as 6) → hh A = some (106, filR [] 3) → (∀ k b : Nat, as[k]? = some b → hh b = some (IA [k])) → Fo o h hh →
      WR p la e (rmD 2 35 63) s m args below meth c D cA B0 2 (fun v h' => v = none ∧ (∃ S A, h S = none ∧ h A = none ∧ MD h' o S A st0.1 st0.2.1 0 0 0 0) ∧ Fo o h h') 23 l [] hh (2 + i) (9 + i) := by
    intro d
    induction d with
    | zero =>
      intro i hd hi hh as l hl hla hoh hSh hAh has FF
      have hi2 : i = 6 := by omega
      subst hi2
      refine WS.sel [1, 0] hl ?_
      repeat refine fst1_ok X (dk rfl) rfl ?_
      refine br_ok X (dk rfl) rfl (show ((26 : Nat) : Int) + 19 = ((45 : Nat) : Int) from rfl) (fun _ => ?_) (fun c1 => absurd (by decide) c1)
      iterate 2 refine fst1_ok X (dk rfl) rfl ?_
      refine loopA 3 0 rfl (Nat.zero_le _) hh [] _ rfl rfl hoh ⟨as, hla, by rw [hSh, ← hla, filR_end], fun k a r e1 e2 => ?_⟩ hAh (by simp) (fun k b hk => by simp at hk) FF
      have h4 := has k a e1
      have hk6 : k < 6 := by rw [← hla]; exact (List.getElem?_eq_some_iff.mp e1).1
      have e3 : ([[0], [1], [2], [3], [4], [5]] : List (List Nat))[k]? = some [k] := by
        match k, hk6 with
        | 0, _ => rfl
        | 1, _ => rfl
        | 2, _ => rfl
        | 3, _ => rfl
        | 4, _ => rfl
        | 5, _ => rfl
      cases e2.symm.trans e3
      exact h4
    | succ d ih =>
      intro i hd hi hh as l hl hla hoh hSh hAh has FF
      have f2 : Value.int (nI i + Int32.ofInt 1) = vI (i + 1) := congrArg Value.int (by rw [nI_1', nI_add])
      refine WS.sel [1, 0] hl ?_
      repeat refine fst1_ok X (dk rfl) rfl ?_
      refine br_ok X (dk rfl) rfl (show ((26 : Nat) : Int) + 19 = ((45 : Nat) : Int) from rfl) (fun c1 => absurd c1 (nI_ge (a := i) (b := 6) (by omega) (by omega))) (fun _ => ?_)
      refine fst1_ok X (dk rfl) rfl ?_
      refine getf_ok X flX10_11 (dk rfl) hoh rfl ?_
      repeat refine fst1_ok X (dk rfl) rfl ?_
      refine callS_ok (av := [vI i]) (r := [vI i, .ref S]) X E (c_row hh i) lkX10_row mlX10_20 lsX10_row ⟨Nat.le_of_ble_eq_true rfl, Nat.le_of_ble_eq_true rfl⟩ ⟨by show 2 + i + 1 ≤ 35; omega, by show 9 + i + 1 ≤ 63; omega⟩ (Nat.le_of_ble_eq_true rfl) (dk rfl) ?_
      rintro v h3 ⟨q, rfl, hq, hBq, rfl⟩
      have XN := Ext.new hq (IA [i])
      have hS3 := XN _ _ hSh
      refine str_ok X (dk rfl) hS3 (hup_self _ _ _) (by rw [filR_len (by omega)]; omega) (by rw [filR_len (by omega)]; omega) ?_
      rw [show (filR as 6).set i (.ref q) = filR (as ++ [q]) 6 by rw [← hla]; exact filR_set (by omega)]
      repeat refine fst1_ok X (dk rfl) rfl ?_
      refine br_ok X (dk rfl) rfl (show ((42 : Nat) : Int) + (-19) = ((23 : Nat) : Int) from rfl) (fun _ => ?_) (fun q => absurd trivial q)
      refine WS.sel (l' := [(1, vI (i + 1)), (0, .ref o)]) [1, 0] (by rw [← f2]; rfl) ?_
      have kI : ∀ {b : Nat} {x : List Nat}, hup hh q (IA [i]) b = some (IA x) → hup (hup hh q (IA [i])) S (105, filR (as ++ [q]) 6) b = some (IA x) := fun {b x} hb => by rw [hup_ne _ _ (IA_ne hb hS3)]; exact hb
      refine ih (i + 1) (by omega) (by omega) _ (as ++ [q]) _ rfl (by rw [List.length_append, hla]; rfl) (by rw [hup_ne _ _ (k_ne (XN _ _ hoh) hS3 (by decide))]; exact XN _ _ hoh) (hup_self _ _ _) (by rw [hup_ne _ _ (k_ne (XN _ _ hAh) hS3 (by decide))]; exact XN _ _ hAh) ?_ ?_
      · intro k b hk
        rcases Nat.lt_or_ge k as.length with z | z
        · rw [List.getElem?_append_left z] at hk
          exact kI (XN _ _ (has k b hk))
        · have hk2 : k = as.length := by have := (List.getElem?_eq_some_iff.mp hk).1; rw [List.length_append, List.length_singleton] at this; omega
          rw [hk2, List.getElem?_concat_length] at hk
          cases hk
          rw [hk2, hla]
          exact kI (hup_self _ _ _)
      · intro b c hb e
        rw [hup_ne _ _ (fun z => by rw [z, hS] at e; cases e)]
        exact XN _ _ (FF b c hb e)
  iterate 2 refine fst1_ok X (dk rfl) rfl ?_
  exact loopS 6 0 rfl (Nat.zero_le _) h2 [] _ rfl rfl ho2 hS2 hA2 (fun k b hk => by simp at hk) F2

end F05
end Uf05ref0
section Uf11q1
/-! the class's questions, exactly (printed by wip/q/genQ1.py) -/
/-- the first number at which something holds -/
def fsF (p : Nat → Bool) : Nat → Nat → Option Nat
  | 0, _ => none
  | n + 1, k => if p k = true then some k else fsF p n (k + 1)
theorem fsF_some {p : Nat → Bool} : ∀ (n k j : Nat), j < n → (∀ i, i < j → p (k + i) = false) → p (k + j) = true → fsF p n k = some (k + j)
  | 0, _, _, h, _, _ => absurd h (Nat.not_lt_zero _)
  | n + 1, k, 0, _, _, h => if_pos h
  | n + 1, k, j + 1, hj, h0, h => by
    unfold fsF
    have e0 := h0 0 (by omega)
    rw [Nat.add_zero] at e0
    rw [if_neg (by rw [e0]; decide), fsF_some n (k + 1) j (by omega) (fun i hi => by rw [show k + 1 + i = k + (i + 1) by omega]; exact h0 (i + 1) (by omega)) (by rw [show k + 1 + j = k + (j + 1) by omega]; exact h)]
    congr 1
    omega
theorem fsF_none {p : Nat → Bool} : ∀ (n k : Nat), (∀ i, i < n → p (k + i) = false) → fsF p n k = none
  | 0, _, _ => rfl
  | n + 1, k, h => by
    unfold fsF
    have e0 := h 0 (by omega)
    rw [Nat.add_zero] at e0
    rw [if_neg (by rw [e0]; decide), fsF_none n (k + 1) (fun i hi => by rw [show k + 1 + i = k + (i + 1) by omega]; exact h (i + 1) (by omega))]
theorem fsF_at {p : Nat → Bool} {n j : Nat} (hj : j < n) (h0 : ∀ i, i < j → p i = false) (h : p j = true) : fsF p n 0 = some j := by
  have := fsF_some (p := p) n 0 j hj (fun i hi => by rw [Nat.zero_add]; exact h0 i hi) (by rw [Nat.zero_add]; exact h)
  rwa [Nat.zero_add] at this
theorem fsF_no {p : Nat → Bool} {n : Nat} (h : ∀ i, i < n → p i = false) : fsF p n 0 = none := fsF_none n 0 (fun i hi => by rw [Nat.zero_add]; exact h i hi)
def ulN (r1 r2 : List (List Nat)) : Option Nat := fsF (fun k => decide (r1.getD k [] ≠ r2.getD k [])) 8 0
/-- how many steps there are, and how they end -/
def stN (one other : List Nat) : Nat × Nat := match goF 40 one other none8 0 0 with
  | some G => (G.2.1, G.2.2.1)
  | none => (0, 0)
theorem stN_of {one other : List Nat} {G : GS} (h : goF 40 one other none8 0 0 = some G) : stN one other = (G.2.1, G.2.2.1) := by
  unfold stN
  rw [h]
def aNames (x1 : Int32) (st : ST) : RS := if okI 6 x1 then ((0, nI (namesN (st.1.getD (xI x1) []))), st) else ((1, 0), st)
def aSteps (x1 x2 : Int32) (st : ST) : RS := if okI 6 x1 then (if okI 6 x2 then ((0, nI (stN (st.1.getD (xI x1) []) (st.1.getD (xI x2) [])).1), st) else ((1, 0), st)) else ((1, 0), st)
def aWhy (x1 x2 : Int32) (st : ST) : RS := if okI 6 x1 then (if okI 6 x2 then ((0, nI (stN (st.1.getD (xI x1) []) (st.1.getD (xI x2) [])).2), st) else ((1, 0), st)) else ((1, 0), st)
section Q11
variable {la : Launch} {D : va_G} {cA : Nat → ClassId} {B0 pa : Nat} {B Q P : Nat → Nat} {ox : Nat} {kn d r : Int32} {F : Nat → TC}
set_option maxHeartbeats 8000000 in
theorem s6_names (h : AH) (hl : la.stackTraces = false) (Y : LYO B Q) {st : ST} (C0 : StC B Q P ox kn h st) (x1 : Int32) : CTX la D cA B0 pa yX6_names cX6_names 2 (some .int) (rmD 7 1 6) [.ref ox, .int x1] h (AP B Q P ox kn (aNames x1 st) h) (AX (aNames x1 st) st h) := by
  refine CTX_of (by decide +kernel) (Nat.le_of_ble_eq_true rfl) ?_
  intro p e s m args below meth c X E hr hlk hnm ht
  have dk : ∀ {pc : Nat} {q : Instr × Nat}, lkd DX6_names pc = some q → decode cX6_names pc = .ok q := lkd_ok DX6_names_ok
  obtain ⟨F, C, H, O⟩ := id C0
  iterate 2 refine fst1_ok X (dk rfl) rfl ?_
  refine callVX_ok (ci := 8) (T := TX6) (N := 14) (av := [.int x1]) (r := []) X E ht hlk (s6_termOf h hl C x1) (fun E1 h1 z => AX.one (by unfold aNames; rw [if_neg (by rw [okI_f z.2.1]; decide)]) ⟨z.1, z.2.2⟩) lkX6_termOf mlX6_69 lmX6_termOf lpX6_termOf ⟨Nat.le_of_ble_eq_true rfl, Nat.le_of_ble_eq_true rfl⟩ ⟨Nat.le_of_ble_eq_true rfl, Nat.le_of_ble_eq_true rfl⟩ rfl C.2.1 (Nat.le_of_ble_eq_true rfl) (dk rfl) ?_
  rintro _ h1 ⟨⟨j, hj, rfl, rfl⟩, eh⟩
  obtain rfl := eh.symm
  obtain ⟨nj, sj, ej, tj, wj, lj⟩ := H.slot O hj
  refine callVR_ok (ci := 7) (T := TX5) (N := 3) (av := []) (r := []) X E (s5_allNames _ C.1 (i := j) (by omega) tj) lkX5_allNames mlX6_140 lmX5_allNames lpX5_allNames ⟨Nat.le_of_ble_eq_true rfl, Nat.le_of_ble_eq_true rfl⟩ ⟨Nat.le_of_ble_eq_true rfl, Nat.le_of_ble_eq_true rfl⟩ rfl ⟨_, (C.1 j (by omega)).2.1⟩ (Nat.le_of_ble_eq_true rfl) (dk rfl) ?_
  rintro _ rfl
  have e : aNames (nI j) st = ((0, nI (namesN nj)), st) := by
    unfold aNames
    rw [if_pos (okI_t hj (by decide)), xI_n (by omega), getD_of sj]
  rw [e]
  refine WRX.ret ?_
  exact reti_ok X hr hlk rfl (dk rfl) (⟨rfl, rfl, ⟨F, C, H, O⟩, FrC.rf _⟩) (Nat.le_of_ble_eq_true rfl) (Nat.le_of_ble_eq_true rfl)
set_option maxHeartbeats 16000000 in
theorem s6_steps (h : AH) (hl : la.stackTraces = false) (Y : LYO B Q) {st : ST} (C0 : StC B Q P ox kn h st) (x1 x2 : Int32) : CTX la D cA B0 pa yX6_steps cX6_steps 5 (some .int) (rmD 7 2 12) [.ref ox, .int x1, .int x2] h (AP B Q P ox kn (aSteps x1 x2 st) h) (AX (aSteps x1 x2 st) st h) := by
  refine CTX_of (by decide +kernel) (Nat.le_of_ble_eq_true rfl) ?_
  intro p e s m args below meth c X E hr hlk hnm ht
  have dk : ∀ {pc : Nat} {q : Instr × Nat}, lkd DX6_steps pc = some q → decode cX6_steps pc = .ok q := lkd_ok DX6_steps_ok
  obtain ⟨F, C, H, O⟩ := id C0
  iterate 2 refine fst1_ok X (dk rfl) rfl ?_
  refine callVX_ok (ci := 8) (T := TX6) (N := 14) (av := [.int x1]) (r := []) X E ht hlk (s6_termOf h hl C x1) (fun E1 h1 z => AX.one (by unfold aSteps; rw [if_neg (by rw [okI_f z.2.1]; decide)]) ⟨z.1, z.2.2⟩) lkX6_termOf mlX6_69 lmX6_termOf lpX6_termOf ⟨Nat.le_of_ble_eq_true rfl, Nat.le_of_ble_eq_true rfl⟩ ⟨Nat.le_of_ble_eq_true rfl, Nat.le_of_ble_eq_true rfl⟩ rfl C.2.1 (Nat.le_of_ble_eq_true rfl) (dk rfl) ?_
  rintro _ h1 ⟨⟨j, hj, rfl, rfl⟩, eh⟩
  obtain rfl := eh.symm
  iterate 3 refine fst1_ok X (dk rfl) rfl ?_
  refine callVX_ok (ci := 8) (T := TX6) (N := 14) (av := [.int x2]) (r := []) X E ht hlk (s6_termOf _ hl C x2) (fun E1 h1 z => AX.one (by unfold aSteps; rw [if_pos (okI_t hj (by decide))]; rw [if_neg (by rw [okI_f z.2.1]; decide)]) ⟨z.1, z.2.2⟩) lkX6_termOf mlX6_69 lmX6_termOf lpX6_termOf ⟨Nat.le_of_ble_eq_true rfl, Nat.le_of_ble_eq_true rfl⟩ ⟨Nat.le_of_ble_eq_true rfl, Nat.le_of_ble_eq_true rfl⟩ rfl C.2.1 (Nat.le_of_ble_eq_true rfl) (dk rfl) ?_
  rintro _ h1 ⟨⟨i, hi, rfl, rfl⟩, eh⟩
  obtain rfl := eh.symm
  obtain ⟨nj, sj, ej, tj, wj, lj⟩ := H.slot O hj
  obtain ⟨ni, si, ei, ti, wi, li⟩ := H.slot O hi
  have t1 : TW nj ∧ nj.length ≤ 16 := ⟨wj, lj⟩
  have t2 : TW ni ∧ ni.length ≤ 16 := ⟨wi, li⟩
  obtain ⟨Gs, Sx, q1, q2, q3, q4, q5, q6, q7⟩ := runM_ok t1 t2
  iterate 2 refine fst1_ok X (dk rfl) rfl ?_
  refine getf_ok X flX6_48 (dk rfl) C.2.1 rfl ?_
  iterate 2 refine fst1_ok X (dk rfl) rfl ?_
  refine callV_ok (ci := 6) (T := TX4) (N := 5) (av := [.ref (B j), .ref (B i)]) (r := []) X E (s4_makeAlike _ Y C (i1 := j) (by omega) (by omega) (i2 := i) (by omega) (by omega) tj ti t1 t2 q7 q5 q2.1) lkX4_makeAlike mlX6_185 lmX4_makeAlike lpX4_makeAlike ⟨Nat.le_of_ble_eq_true rfl, Nat.le_of_ble_eq_true rfl⟩ ⟨Nat.le_of_ble_eq_true rfl, Nat.le_of_ble_eq_true rfl⟩ rfl C.2.2.2.1.choose_spec.choose_spec (Nat.le_of_ble_eq_true rfl) (dk rfl) ?_
  rintro _ h2 ⟨rfl, f2, F2, ps, C2, eF, T2⟩
  have H2 : FS F2 st := H.cg (fun n hn => eF n (by omega))
  iterate 2 refine fst1_ok X (dk rfl) rfl ?_
  refine getf_ok X flX6_48 (dk rfl) C2.2.1 rfl ?_
  refine callVR_ok (ci := 6) (T := TX4) (N := 5) (av := []) (r := []) X E (s4_stepsTaken h2 T2) lkX4_stepsTaken mlX6_213 lmX4_stepsTaken lpX4_stepsTaken ⟨Nat.le_of_ble_eq_true rfl, Nat.le_of_ble_eq_true rfl⟩ ⟨Nat.le_of_ble_eq_true rfl, Nat.le_of_ble_eq_true rfl⟩ rfl ⟨_, T2.2.2.1⟩ (Nat.le_of_ble_eq_true rfl) (dk rfl) ?_
  rintro _ rfl
  have e : aSteps (nI j) (nI i) st = ((0, nI Gs.2.1), st) := by
    unfold aSteps
    rw [if_pos (okI_t hj (by decide)), if_pos (okI_t hi (by decide)), xI_n (by omega), xI_n (by omega), getD_of sj, getD_of si, stN_of q1]
  rw [e]
  refine WRX.ret ?_
  exact reti_ok X hr hlk rfl (dk rfl) (⟨rfl, rfl, ⟨F2, C2, H2, O⟩, f2⟩) (Nat.le_of_ble_eq_true rfl) (Nat.le_of_ble_eq_true rfl)
set_option maxHeartbeats 16000000 in
theorem s6_why (h : AH) (hl : la.stackTraces = false) (Y : LYO B Q) {st : ST} (C0 : StC B Q P ox kn h st) (x1 x2 : Int32) : CTX la D cA B0 pa yX6_why cX6_why 5 (some .int) (rmD 7 2 12) [.ref ox, .int x1, .int x2] h (AP B Q P ox kn (aWhy x1 x2 st) h) (AX (aWhy x1 x2 st) st h) := by
  refine CTX_of (by decide +kernel) (Nat.le_of_ble_eq_true rfl) ?_
  intro p e s m args below meth c X E hr hlk hnm ht
  have dk : ∀ {pc : Nat} {q : Instr × Nat}, lkd DX6_why pc = some q → decode cX6_why pc = .ok q := lkd_ok DX6_why_ok
  obtain ⟨F, C, H, O⟩ := id C0
  iterate 2 refine fst1_ok X (dk rfl) rfl ?_
  refine callVX_ok (ci := 8) (T := TX6) (N := 14) (av := [.int x1]) (r := []) X E ht hlk (s6_termOf h hl C x1) (fun E1 h1 z => AX.one (by unfold aWhy; rw [if_neg (by rw [okI_f z.2.1]; decide)]) ⟨z.1, z.2.2⟩) lkX6_termOf mlX6_69 lmX6_termOf lpX6_termOf ⟨Nat.le_of_ble_eq_true rfl, Nat.le_of_ble_eq_true rfl⟩ ⟨Nat.le_of_ble_eq_true rfl, Nat.le_of_ble_eq_true rfl⟩ rfl C.2.1 (Nat.le_of_ble_eq_true rfl) (dk rfl) ?_
  rintro _ h1 ⟨⟨j, hj, rfl, rfl⟩, eh⟩
  obtain rfl := eh.symm
  iterate 3 refine fst1_ok X (dk rfl) rfl ?_
  refine callVX_ok (ci := 8) (T := TX6) (N := 14) (av := [.int x2]) (r := []) X E ht hlk (s6_termOf _ hl C x2) (fun E1 h1 z => AX.one (by unfold aWhy; rw [if_pos (okI_t hj (by decide))]; rw [if_neg (by rw [okI_f z.2.1]; decide)]) ⟨z.1, z.2.2⟩) lkX6_termOf mlX6_69 lmX6_termOf lpX6_termOf ⟨Nat.le_of_ble_eq_true rfl, Nat.le_of_ble_eq_true rfl⟩ ⟨Nat.le_of_ble_eq_true rfl, Nat.le_of_ble_eq_true rfl⟩ rfl C.2.1 (Nat.le_of_ble_eq_true rfl) (dk rfl) ?_
  rintro _ h1 ⟨⟨i, hi, rfl, rfl⟩, eh⟩
  obtain rfl := eh.symm
  obtain ⟨nj, sj, ej, tj, wj, lj⟩ := H.slot O hj
  obtain ⟨ni, si, ei, ti, wi, li⟩ := H.slot O hi
  have t1 : TW nj ∧ nj.length ≤ 16 := ⟨wj, lj⟩
  have t2 : TW ni ∧ ni.length ≤ 16 := ⟨wi, li⟩
  obtain ⟨Gs, Sx, q1, q2, q3, q4, q5, q6, q7⟩ := runM_ok t1 t2
  iterate 2 refine fst1_ok X (dk rfl) rfl ?_
  refine getf_ok X flX6_48 (dk rfl) C.2.1 rfl ?_
  iterate 2 refine fst1_ok X (dk rfl) rfl ?_
  refine callV_ok (ci := 6) (T := TX4) (N := 5) (av := [.ref (B j), .ref (B i)]) (r := []) X E (s4_makeAlike _ Y C (i1 := j) (by omega) (by omega) (i2 := i) (by omega) (by omega) tj ti t1 t2 q7 q5 q2.1) lkX4_makeAlike mlX6_185 lmX4_makeAlike lpX4_makeAlike ⟨Nat.le_of_ble_eq_true rfl, Nat.le_of_ble_eq_true rfl⟩ ⟨Nat.le_of_ble_eq_true rfl, Nat.le_of_ble_eq_true rfl⟩ rfl C.2.2.2.1.choose_spec.choose_spec (Nat.le_of_ble_eq_true rfl) (dk rfl) ?_
  rintro _ h2 ⟨rfl, f2, F2, ps, C2, eF, T2⟩
  have H2 : FS F2 st := H.cg (fun n hn => eF n (by omega))
  iterate 2 refine fst1_ok X (dk rfl) rfl ?_
  refine getf_ok X flX6_48 (dk rfl) C2.2.1 rfl ?_
  refine callVR_ok (ci := 6) (T := TX4) (N := 5) (av := []) (r := []) X E (s4_howEnded h2 T2) lkX4_howEnded mlX6_216 lmX4_howEnded lpX4_howEnded ⟨Nat.le_of_ble_eq_true rfl, Nat.le_of_ble_eq_true rfl⟩ ⟨Nat.le_of_ble_eq_true rfl, Nat.le_of_ble_eq_true rfl⟩ rfl ⟨_, T2.2.2.1⟩ (Nat.le_of_ble_eq_true rfl) (dk rfl) ?_
  rintro _ rfl
  have e : aWhy (nI j) (nI i) st = ((0, nI Gs.2.2.1), st) := by
    unfold aWhy
    rw [if_pos (okI_t hj (by decide)), if_pos (okI_t hi (by decide)), xI_n (by omega), xI_n (by omega), getD_of sj, getD_of si, stN_of q1]
  rw [e]
  refine WRX.ret ?_
  exact reti_ok X hr hlk rfl (dk rfl) (⟨rfl, rfl, ⟨F2, C2, H2, O⟩, f2⟩) (Nat.le_of_ble_eq_true rfl) (Nat.le_of_ble_eq_true rfl)
set_option maxHeartbeats 16000000 in
theorem s0_firstUnlike (h : AH) (S : TS B Q h F) {o f : Nat} (O : AnO B h o f) {o3 g : Nat} (O2 : AnO B h o3 g) {r1 r2 : List (List Nat)} (H1 : RWX F f r1) (H2 : RWX F g r2) : CT la D cA B0 pa yX0_firstUnlike cX0_firstUnlike 3 (some .int) (rmD 3 0 0) [.ref o, .ref o3] h (RP (.int (pI (ulN r1 r2))) h) := by
  refine CT_of (by decide +kernel) (Nat.le_of_ble_eq_true rfl) ?_
  intro p e s m args below meth c X E hr hlk hnm
  have dk : ∀ {pc : Nat} {q : Instr × Nat}, lkd DX0_firstUnlike pc = some q → decode cX0_firstUnlike pc = .ok q := lkd_ok DX0_firstUnlike_ok
  obtain ⟨of, arr, o1, o2⟩ := id O
  obtain ⟨og, arr2, p1, p2⟩ := id O2
  have loop : ∀ (d k : Nat), d = 8 - k → k ≤ 8 → (∀ q, q < k → r1.getD q [] = r2.getD q []) → ∀ l : List (Nat × Value), lsel l [2, 1, 0] = [(2, vI k), (1, .ref o3), (0, .ref o)] → WR p la e (rmD 3 0 0) s m args below meth c D cA B0 3 (RP (.int (pI (ulN r1 r2))) h) 2 l [] h 0 0 := by
    intro d
    induction d with
    | zero =>
      intro k hd hk hne l hl
      have hk2 : k = 8 := by omega
      subst hk2
      refine WS.sel [2, 1, 0] hl ?_
      iterate 2 refine fst1_ok X (dk rfl) rfl ?_
      refine br_ok X (dk rfl) rfl (show ((5 : Nat) : Int) + 29 = ((34 : Nat) : Int) from rfl) (fun _ => ?_) (fun q => absurd (by rw [nI_8']; exact Int32.le_refl _) q)
      refine fst1_ok X (dk rfl) rfl ?_
      have en : ulN r1 r2 = none := fsF_no (fun q hq => decide_eq_false (fun z => z (hne q hq)))
      rw [en]
      exact reti_ok X hr hlk rfl (dk rfl) (⟨rfl, rfl⟩) (Nat.le_of_ble_eq_true rfl) (Nat.le_of_ble_eq_true rfl)
    | succ d ih =>
      intro k hd hk hne l hl
      obtain ⟨n1, a1, a2, a3, a4⟩ := H1.2 k (by omega)
      obtain ⟨n2, b1, b2, b3, b4⟩ := H2.2 k (by omega)
      have t1 : TN (F (f + k)) n1 := ⟨by rw [a2], a3.2⟩
      have t2 : TN (F (g + k)) n2 := ⟨by rw [b2], b3.2⟩
      have f3 : Value.int (nI k + Int32.ofInt 1) = vI (k + 1) := congrArg Value.int (by rw [nI_1', nI_add])
      refine WS.sel [2, 1, 0] hl ?_
      iterate 2 refine fst1_ok X (dk rfl) rfl ?_
      refine br_ok X (dk rfl) rfl (show ((5 : Nat) : Int) + 29 = ((34 : Nat) : Int) from rfl) (fun q => absurd q (nI_ge (a := k) (b := 8) (by omega) (by omega))) (fun _ => ?_)
      refine fst1_ok X (dk rfl) rfl ?_
      refine getf_ok X flX0_11 (dk rfl) o1 rfl ?_
      refine fst1_ok X (dk rfl) rfl ?_
      refine aldr_ok X (Or.inl rfl) (dk rfl) o2 (by omega) (rgB_get B f (k := k) (by omega)) ?_
      refine fst1_ok X (dk rfl) rfl ?_
      refine getf_ok X flX0_11 (dk rfl) p1 rfl ?_
      refine fst1_ok X (dk rfl) rfl ?_
      refine aldr_ok X (Or.inl rfl) (dk rfl) p2 (by omega) (rgB_get B g (k := k) (by omega)) ?_
      refine callVR_ok (ci := 7) (T := TX5) (N := 3) (av := [.ref (B (g + k))]) (r := []) X E (s5_isLike h S (i := f + k) (by omega) t1 (u := g + k) (by omega) t2 a3.1 b3.1) lkX5_isLike mlX0_74 lmX5_isLike lpX5_isLike ⟨Nat.le_of_ble_eq_true rfl, Nat.le_of_ble_eq_true rfl⟩ ⟨Nat.le_of_ble_eq_true rfl, Nat.le_of_ble_eq_true rfl⟩ rfl ⟨_, (S (f + k) (by omega)).2.1⟩ (Nat.le_of_ble_eq_true rfl) (dk rfl) ?_
      rintro _ rfl
      by_cases e1 : n1 = n2
      · rw [decide_eq_true e1]
        refine br_ok X (dk rfl) rfl (show ((23 : Nat) : Int) + 5 = ((28 : Nat) : Int) from rfl) (fun _ => ?_) (fun q => absurd bI_t q)
        refine fst1_ok X (dk rfl) rfl ?_
        refine br_ok X (dk rfl) rfl (show ((31 : Nat) : Int) + (-29) = ((2 : Nat) : Int) from rfl) (fun _ => ?_) (fun q => absurd trivial q)
        refine WS.sel (l' := [(2, vI (k + 1)), (1, .ref o3), (0, .ref o)]) [2, 1, 0] (by rw [← f3]; rfl) ?_
        exact ih (k + 1) (by omega) (by omega) (fun q hq => by
          rcases Nat.lt_or_ge q k with z | z
          · exact hne q z
          · rw [show q = k by omega, getD_of a1, getD_of b1]
            exact e1) _ rfl
      · rw [decide_eq_false e1]
        refine br_ok X (dk rfl) rfl (show ((23 : Nat) : Int) + 5 = ((28 : Nat) : Int) from rfl) (fun q => absurd q bI_f) (fun _ => ?_)
        refine fst1_ok X (dk rfl) rfl ?_
        have en : ulN r1 r2 = some k := fsF_at (by omega) (fun q hq => decide_eq_false (fun z => z (hne q hq))) (decide_eq_true (by rw [getD_of a1, getD_of b1]; exact e1))
        rw [en]
        exact reti_ok X hr hlk rfl (dk rfl) (⟨rfl, rfl⟩) (Nat.le_of_ble_eq_true rfl) (Nat.le_of_ble_eq_true rfl)
  iterate 2 refine fst1_ok X (dk rfl) rfl ?_
  exact loop _ 0 rfl (Nat.zero_le _) (fun q hq => absurd hq (Nat.not_lt_zero _)) _ rfl
end Q11
end Uf11q1
section Uf13q2
/-! the class's questions, exactly, further (printed by wip/q/genQ2.py) -/
theorem okI_neg {N : Nat} {x : Int32} (h : x < 0) : okI N x = false := by
  unfold okI
  rw [decide_eq_false (fun z => z h)]
  rfl
theorem okI_big {N j : Nat} (h : N ≤ j) (hj : j < 2 ^ 31) : okI N (nI j) = false := by
  unfold okI
  rw [nI_clamp hj, decide_eq_false (show ¬ j < N by omega), Bool.and_false]
theorem stepsB {one other : List Nat} (t1 : TW one ∧ one.length ≤ 16) (t2 : TW other ∧ other.length ≤ 16) {G : GS} {S : SS} (q1 : goF 40 one other none8 0 0 = some G) (q3 : S1 (one ++ other) S) (q4 : G.1 = smO (one ++ other) S) (q6 : G.2.2.1 = 0 → Ac (one ++ other) S) (q7 : runM (one ++ other) G.2.1 sN 0 [(0, one.length)] = some (S, G.2.2.1, G.2.1)) {x : Int32} (hx : x = 0) : decide (G.2.2.1 = 0) = true ↔ ∃ E, PEx x one other E := by
  constructor
  · intro z
    have hw := of_decide_eq_true z
    obtain ⟨bY, -, -⟩ := BY_of t1 t2
    have ac := q6 hw
    obtain ⟨E, hE⟩ := ExP.ex bY.1 q3 ac
    refine ⟨E, ?_⟩
    unfold PEx
    rw [if_pos hx]
    exact ⟨G, S, q1, hw, by rw [hw] at q7; exact q7, q3, ac, q4, hE⟩
  · rintro ⟨E, pe⟩
    unfold PEx at pe
    rw [if_pos hx] at pe
    obtain ⟨G2, S2, b1, b2, -⟩ := pe
    rw [q1] at b1
    cases b1
    exact decide_eq_true b2
theorem classesB {one other : List Nat} (t1 : TW one ∧ one.length ≤ 16) (t2 : TW other ∧ other.length ≤ 16) {b : Bool} (hb : b = true ↔ ∃ k, MnK (one ++ other) one.length k ∧ AcK (one ++ other) k) {x : Int32} (hx : ¬ x = 0) : b = true ↔ ∃ E, PEx x one other E := by
  refine hb.trans ⟨fun ⟨k, m, a⟩ => ?_, fun ⟨E, pe⟩ => ?_⟩
  · obtain ⟨E, pe⟩ := PEc.of t1 t2 m a
    exact ⟨E, by unfold PEx; rw [if_neg hx]; exact pe⟩
  · unfold PEx at pe
    rw [if_neg hx] at pe
    obtain ⟨k, S, m, a, -⟩ := pe
    exact ⟨k, m, a⟩
theorem RWX.cg {F F' : Nat → TC} {f : Nat} {rows : List (List Nat)} (H : RWX F f rows) (e : ∀ n, n < 8 → F' (f + n) = F (f + n)) : RWX F' f rows := ⟨H.1, fun n hn => by
  obtain ⟨ns, g1, g2, g3⟩ := H.2 n hn
  exact ⟨ns, g1, by rw [e n hn]; exact g2, g3⟩⟩
theorem used_256 {rows : List (List Nat)} (H : AO rows) {ns : List Nat} (hl : ns.length ≤ 16) : (usedL rows ns).length ≤ 256 := by
  have := usedL_len rows (M := 16) (fun z hz => (H.2 z hz).2) (by omega) ns
  omega
theorem addR_wide {zs : List Nat} (h : zs.length ≤ 256) : addR 256 ([], false) (zs.map nI) = (zs.map nI, false) := by
  rw [addR_fit (by show 0 + (zs.map nI).length ≤ 256; rw [List.length_map]; omega)]
  exact Prod.ext (List.nil_append _) rfl
theorem ulN_none {r1 r2 : List (List Nat)} (l1 : r1.length = 8) (l2 : r2.length = 8) : ulN r1 r2 = none ↔ r1 = r2 := by
  have gd : ∀ (r : List (List Nat)) (i : Nat), r.getD i [] = (r[i]?).getD [] := fun r i => List.getD_eq_getElem?_getD
  constructor
  · intro h
    have key : ∀ i, i < 8 → r1.getD i [] = r2.getD i [] := fun i hi => by
      rcases Decidable.em (r1.getD i [] = r2.getD i []) with z | z
      · exact z
      · have hne : ∀ (n k : Nat), k ≤ i → i < k + n → fsF (fun k => decide (r1.getD k [] ≠ r2.getD k [])) n k ≠ none := by
          intro n
          induction n with
          | zero => intro k h1 h2; omega
          | succ n ih =>
            intro k h1 h2
            unfold fsF
            split
            · intro z; cases z
            · rename_i c
              refine ih (k + 1) ?_ (by omega)
              rcases Nat.lt_or_ge k i with q | q
              · omega
              · exact absurd (decide_eq_true (by rw [show k = i by omega]; exact z)) c
        exact absurd h (hne 8 0 (by omega) (by omega))
    refine List.ext_getElem? (fun i => ?_)
    rcases Nat.lt_or_ge i 8 with z | z
    · have := key i z
      rw [gd, gd, List.getElem?_eq_getElem (by omega), List.getElem?_eq_getElem (by omega)] at this
      rw [List.getElem?_eq_getElem (by omega), List.getElem?_eq_getElem (by omega)]
      exact congrArg some this
    · rw [List.getElem?_eq_none (by omega), List.getElem?_eq_none (by omega)]
  · intro h
    subst h
    exact fsF_no (fun i hi => decide_eq_false (fun z => z rfl))
section Q13
variable {la : Launch} {D : va_G} {cA : Nat → ClassId} {B0 pa : Nat} {B Q P : Nat → Nat} {ox : Nat} {kn d r : Int32} {F : Nat → TC}
set_option maxHeartbeats 32000000 in
theorem s6_isMade (h : AH) (Y : LYO B Q) (C : CLS B Q P ox kn h F d r) {oo f : Nat} (OA : AnO B h oo f) (hf : f + 8 ≤ 32 ∨ 34 ≤ f) {rows : List (List Nat)} (R : RWX F f rows) {j : Nat} (hj : j < 30) {n1 : List Nat} (tj : TN (F j) n1) (w1 : TW n1) (l1 : n1.length ≤ 16) {i : Nat} (hi : i < 30) {n2 : List Nat} (ti : TN (F i) n2) (w2 : TW n2) (l2 : n2.length ≤ 16) : CT la D cA B0 pa yX6_isMadeAlikeBy cX6_isMadeAlikeBy 4 (some .boolean) (rmD 4 0 0) [.ref ox, .ref oo, .ref (B j), .ref (B i)] h (fun v h' => v = some (.int (bI (decide (usedL rows n1 = usedL rows n2)))) ∧ ∃ F', CLS B Q P ox kn h' F' d r ∧ (∀ q, q ≠ 32 → q ≠ 33 → F' q = F q) ∧ FrC h h') := by
  refine CT_of (by decide +kernel) (Nat.le_of_ble_eq_true rfl) ?_
  intro p e s m args below meth c X E hr hlk hnm
  have dk : ∀ {pc : Nat} {q : Instr × Nat}, lkd DX6_isMadeAlikeBy pc = some q → decode cX6_isMadeAlikeBy pc = .ok q := lkd_ok DX6_isMadeAlikeBy_ok
  refine fst1_ok X (dk rfl) rfl ?_
  refine getf_ok X flX6_31 (dk rfl) C.2.1 rfl ?_
  refine callVT_ok (ci := 7) (T := TX5) (N := 3) (av := []) (r := []) X E (s5_empty _ Y C.1 (i := 32) (by omega)) lkX5_empty mlX6_94 lmX5_empty lpX5_empty ⟨Nat.le_of_ble_eq_true rfl, Nat.le_of_ble_eq_true rfl⟩ ⟨Nat.le_of_ble_eq_true rfl, Nat.le_of_ble_eq_true rfl⟩ rfl (C.1 32 (by omega)).2.1 (Nat.le_of_ble_eq_true rfl) (dk rfl) (fun h2 S2 f2 => ?_)
  have C2 := C.tm Y S2 f2
  have oa2 := OA.keep C.1 f2
  have tj2 : TN (upF F 32 ([], false) j) n1 := by rw [upF_ne _ _ (by omega)]; exact tj
  have rk2 : RWX (upF F 32 ([], false)) f rows := R.cg (fun n hn => upF_ne _ _ (by omega))
  have u1 := used_256 R.ao l1
  have u2 := used_256 R.ao l2
  iterate 4 refine fst1_ok X (dk rfl) rfl ?_
  refine callVR_ok (ci := 7) (T := TX5) (N := 3) (av := []) (r := [vI 0, .ref (B j), .ref oo]) X E (s5_length h2 S2 (i := j) (by omega)) lkX5_length mlX6_76 lmX5_length lpX5_length ⟨Nat.le_of_ble_eq_true rfl, Nat.le_of_ble_eq_true rfl⟩ ⟨Nat.le_of_ble_eq_true rfl, Nat.le_of_ble_eq_true rfl⟩ rfl ⟨_, (S2 j (by omega)).2.1⟩ (Nat.le_of_ble_eq_true rfl) (dk rfl) ?_
  rintro _ rfl
  rw [tj2.len]
  refine fst1_ok X (dk rfl) rfl ?_
  refine getf_ok X flX6_31 (dk rfl) C2.2.1 rfl ?_
  refine callVT_ok (ci := 2) (T := TX0) (N := 1) (av := [.ref (B j), vI 0, vI n1.length, .ref (B 32)]) (r := []) X E (s0_addUsed h2 Y S2 oa2 (i1 := j) (by omega) tj2 (i2 := 32) (by omega) (by omega) (by omega) (Nat.zero_le _) (Nat.le_refl _)) lkX0_addUsed mlX6_155 lmX0_addUsed lpX0_addUsed ⟨Nat.le_of_ble_eq_true rfl, Nat.le_of_ble_eq_true rfl⟩ ⟨Nat.le_of_ble_eq_true rfl, Nat.le_of_ble_eq_true rfl⟩ rfl oa2.2.choose_spec.1 (Nat.le_of_ble_eq_true rfl) (dk rfl) (fun h3 S3 f3 => ?_)
  rw [List.drop_zero, Nat.sub_zero, List.take_length, auC_rows rk2 n1 _ w1.2 (by rw [upF_self]; exact Nat.zero_le _), upF_self, upF_up, show rmI 32 = 256 from rfl, addR_wide u1] at S3
  have C3 := C2.tm Y S3 f3
  have oa3 := oa2.keep S2 f3
  refine fst1_ok X (dk rfl) rfl ?_
  refine getf_ok X flX6_34 (dk rfl) C3.2.1 rfl ?_
  refine callVT_ok (ci := 7) (T := TX5) (N := 3) (av := []) (r := []) X E (s5_empty h3 Y S3 (i := 33) (by omega)) lkX5_empty mlX6_94 lmX5_empty lpX5_empty ⟨Nat.le_of_ble_eq_true rfl, Nat.le_of_ble_eq_true rfl⟩ ⟨Nat.le_of_ble_eq_true rfl, Nat.le_of_ble_eq_true rfl⟩ rfl (S3 33 (by omega)).2.1 (Nat.le_of_ble_eq_true rfl) (dk rfl) (fun h4 S4 f4 => ?_)
  have C4 := C3.tm Y S4 f4
  have oa4 := oa3.keep S3 f4
  have ti4 : TN (upF (upF F 32 ((usedL rows n1).map nI, false)) 33 ([], false) i) n2 := by rw [upF_ne _ _ (by omega), upF_ne _ _ (by omega)]; exact ti
  have rk4 : RWX (upF (upF F 32 ((usedL rows n1).map nI, false)) 33 ([], false)) f rows := R.cg (fun n hn => by rw [upF_ne _ _ (by omega), upF_ne _ _ (by omega)])
  iterate 4 refine fst1_ok X (dk rfl) rfl ?_
  refine callVR_ok (ci := 7) (T := TX5) (N := 3) (av := []) (r := [vI 0, .ref (B i), .ref oo]) X E (s5_length h4 S4 (i := i) (by omega)) lkX5_length mlX6_76 lmX5_length lpX5_length ⟨Nat.le_of_ble_eq_true rfl, Nat.le_of_ble_eq_true rfl⟩ ⟨Nat.le_of_ble_eq_true rfl, Nat.le_of_ble_eq_true rfl⟩ rfl ⟨_, (S4 i (by omega)).2.1⟩ (Nat.le_of_ble_eq_true rfl) (dk rfl) ?_
  rintro _ rfl
  rw [ti4.len]
  refine fst1_ok X (dk rfl) rfl ?_
  refine getf_ok X flX6_34 (dk rfl) C4.2.1 rfl ?_
  refine callVT_ok (ci := 2) (T := TX0) (N := 1) (av := [.ref (B i), vI 0, vI n2.length, .ref (B 33)]) (r := []) X E (s0_addUsed h4 Y S4 oa4 (i1 := i) (by omega) ti4 (i2 := 33) (by omega) (by omega) (by omega) (Nat.zero_le _) (Nat.le_refl _)) lkX0_addUsed mlX6_155 lmX0_addUsed lpX0_addUsed ⟨Nat.le_of_ble_eq_true rfl, Nat.le_of_ble_eq_true rfl⟩ ⟨Nat.le_of_ble_eq_true rfl, Nat.le_of_ble_eq_true rfl⟩ rfl oa4.2.choose_spec.1 (Nat.le_of_ble_eq_true rfl) (dk rfl) (fun h5 S5 f5 => ?_)
  rw [List.drop_zero, Nat.sub_zero, List.take_length, auC_rows rk4 n2 _ w2.2 (by rw [upF_self]; exact Nat.zero_le _), upF_self, upF_up, show rmI 33 = 256 from rfl, addR_wide u2] at S5
  have C5 := C4.tm Y S5 f5
  refine fst1_ok X (dk rfl) rfl ?_
  refine getf_ok X flX6_31 (dk rfl) C5.2.1 rfl ?_
  refine fst1_ok X (dk rfl) rfl ?_
  refine getf_ok X flX6_34 (dk rfl) C5.2.1 rfl ?_
  refine callVR_ok (ci := 7) (T := TX5) (N := 3) (av := [.ref (B 33)]) (r := []) X E (s5_isLike h5 S5 (i := 32) (by omega) (ns := usedL rows n1) (by rw [upF_ne _ _ (by omega), upF_self]; exact ⟨rfl, (TW_used R.ao w1).2⟩) (u := 33) (by omega) (ms := usedL rows n2) (by rw [upF_self]; exact ⟨rfl, (TW_used R.ao w2).2⟩) (TW_used R.ao w1).1 (TW_used R.ao w2).1) lkX5_isLike mlX6_111 lmX5_isLike lpX5_isLike ⟨Nat.le_of_ble_eq_true rfl, Nat.le_of_ble_eq_true rfl⟩ ⟨Nat.le_of_ble_eq_true rfl, Nat.le_of_ble_eq_true rfl⟩ rfl ⟨_, (S5 32 (by omega)).2.1⟩ (Nat.le_of_ble_eq_true rfl) (dk rfl) ?_
  rintro _ rfl
  exact reti_ok X hr hlk (bI_n _) (dk rfl) (⟨rfl, _, C5, fun q h1 h2 => by rw [upF_ne _ _ h2, upF_ne _ _ h1], (((f2.frC C.1).trans (f3.frC S2)).trans (f4.frC S3)).trans (f5.frC S4)⟩) (Nat.le_of_ble_eq_true rfl) (Nat.le_of_ble_eq_true rfl)
end Q13
end Uf13q2
section Uf14r2
/-! the reference's questions, exactly, further (printed by wip/q/genR2.py) -/
def szN (sl : List (List Nat)) : Nat → Nat
  | 0 => 0
  | k + 1 => szN sl k + (sl.getD k []).length
def mvN (an : List (List (List Nat))) : Nat → Int32
  | 0 => 0
  | k + 1 => mvN an k + bcF (nI (movedN (an.getD k []) 8))
def hsN (kn : Int32) (q : Nat) (st : ST) : Int32 := if q = 0 then st.2.2.1 else if q = 1 then st.2.2.2 else if q = 2 then kn else if q = 3 then nI (szN st.1 6) else mvN st.2.1 3
def aHouse (kn x1 : Int32) (st : ST) : RS := if okI 5 x1 then ((0, hsN kn (xI x1) st), st) else ((1, 0), st)
section R14
variable {la : Launch} {D : va_G} {cA : Nat → ClassId} {B0 pa : Nat} {o S A : Nat} {sl : List (List Nat)} {an : List (List (List Nat))} {da dr kn th : Int32}
set_option maxHeartbeats 4000000 in
theorem RF.x_told_ (h : AH) (M : MD h o S A sl an da dr kn th) (x1 : Int32) : CT la D cA B0 pa yX10_told_ cX10_told_ 7 (some .int) (rmD 4 24 24) [.ref o, .int x1] h (fun v h' => v = some (.int (if x1 = Int32.ofInt 3 then nI (szN sl 6) else mvN an 3)) ∧ MC o S A sl an da dr kn th h h') := by
  refine CT_of (by decide +kernel) (Nat.le_of_ble_eq_true rfl) ?_
  intro p e s m args below meth c X E hr hlk hnm
  have dk : ∀ {pc : Nat} {q : Instr × Nat}, lkd DX10_told_ pc = some q → decode cX10_told_ pc = .ok q := lkd_ok DX10_told__ok
  obtain ⟨ss, s1, s2, s3⟩ := M.slot
  obtain ⟨as, a1, a2, a3⟩ := M.ans
  have loopS : ∀ (d i : Nat), d = 6 - i → i ≤ 6 → ∀ (z : Int32) (l : List (Nat × Value)), z = nI (szN sl i) → x1 = Int32.ofInt 3 → lsel l [5, 4, 3, 2] = [(5, vI i), (4, vI 6), (3, .ref S), (2, .int z)] → WR p la e (rmD 4 24 24) s m args below meth c D cA B0 7 (fun v h' => v = some (.int (if x1 = Int32.ofInt 3 then nI (szN sl 6) else mvN an 3)) ∧ MC o S A sl an da dr kn th h h') 19 l [] h 0 0 := by
    intro d
    induction d with
    | zero =>
      intro i hd hi z l ez hq3 hl
      have hi2 : i = 6 := by omega
      subst hi2
      refine WS.sel [5, 4, 3, 2] hl ?_
      repeat refine fst1_ok X (dk rfl) rfl ?_
      refine br_ok X (dk rfl) rfl (show ((23 : Nat) : Int) + 21 = ((44 : Nat) : Int) from rfl) (fun _ => ?_) (fun c1 => absurd (Int32.le_refl _) c1)
      refine br_ok X (dk rfl) rfl (show ((44 : Nat) : Int) + 45 = ((89 : Nat) : Int) from rfl) (fun _ => ?_) (fun q => absurd trivial q)
      repeat refine fst1_ok X (dk rfl) rfl ?_
      exact reti_ok X hr hlk rfl (dk rfl) ⟨by rw [if_pos hq3, ez], M, Fr.rf h⟩ (Nat.zero_le _) (Nat.zero_le _)
    | succ d ih =>
      intro i hd hi z l ez hq3 hl
      obtain ⟨b, x, e1, e2, e3, e4, e5⟩ := s3 i (by omega)
      have f2 : Value.int (nI i + Int32.ofInt 1) = vI (i + 1) := congrArg Value.int (by rw [nI_1', nI_add])
      refine WS.sel [5, 4, 3, 2] hl ?_
      repeat refine fst1_ok X (dk rfl) rfl ?_
      refine br_ok X (dk rfl) rfl (show ((23 : Nat) : Int) + 21 = ((44 : Nat) : Int) from rfl) (fun c1 => absurd c1 (nI_ge (a := i) (b := 6) (by omega) (by omega))) (fun _ => ?_)
      repeat refine fst1_ok X (dk rfl) rfl ?_
      refine ldr_ok X (dk rfl) s2 e1 (by omega) ?_
      repeat refine fst1_ok X (dk rfl) rfl ?_
      refine alen_ok X (by decide) (dk rfl) e3 ?_
      rw [show (x.map vI).length = x.length from List.length_map _]
      repeat refine fst1_ok X (dk rfl) rfl ?_
      refine br_ok X (dk rfl) rfl (show ((41 : Nat) : Int) + (-22) = ((19 : Nat) : Int) from rfl) (fun _ => ?_) (fun q => absurd trivial q)
      refine WS.sel (l' := [(5, vI (i + 1)), (4, vI 6), (3, .ref S), (2, .int (z + nI x.length))]) [5, 4, 3, 2] (by rw [← f2]; rfl) ?_
      exact ih (i + 1) (by omega) (by omega) _ _ (by rw [ez, nI_add]; show nI (szN sl i + x.length) = nI (szN sl i + (sl.getD i []).length); rw [getD_of e2]) hq3 rfl
  have loopA : ∀ (d i : Nat), d = 3 - i → i ≤ 3 → ∀ (z : Int32) (hh : AH) (l : List (Nat × Value)), z = mvN an i → ¬ x1 = Int32.ofInt 3 → lsel l [5, 4, 3, 2] = [(5, vI i), (4, vI 3), (3, .ref A), (2, .int z)] → Ext h hh → WR p la e (rmD 4 24 24) s m args below meth c D cA B0 7 (fun v h' => v = some (.int (if x1 = Int32.ofInt 3 then nI (szN sl 6) else mvN an 3)) ∧ MC o S A sl an da dr kn th h h') 59 l [] hh (8 * i) (8 * i) := by
    intro d
    induction d with
    | zero =>
      intro i hd hi z hh l ez hq3 hl XX
      have hi2 : i = 3 := by omega
      subst hi2
      refine WS.sel [5, 4, 3, 2] hl ?_
      repeat refine fst1_ok X (dk rfl) rfl ?_
      refine br_ok X (dk rfl) rfl (show ((63 : Nat) : Int) + 26 = ((89 : Nat) : Int) from rfl) (fun _ => ?_) (fun c1 => absurd (Int32.le_refl _) c1)
      repeat refine fst1_ok X (dk rfl) rfl ?_
      exact reti_ok X hr hlk rfl (dk rfl) ⟨by rw [if_neg hq3, ez], M.ext XX, Fr.ext XX⟩ (Nat.le_of_ble_eq_true rfl) (Nat.le_of_ble_eq_true rfl)
    | succ d ih =>
      intro i hd hi z hh l ez hq3 hl XX
      obtain ⟨b, x, e1, e2, e3, e4, e5⟩ := a3 i (by omega)
      have f2 : Value.int (nI i + Int32.ofInt 1) = vI (i + 1) := congrArg Value.int (by rw [nI_1', nI_add])
      refine WS.sel [5, 4, 3, 2] hl ?_
      repeat refine fst1_ok X (dk rfl) rfl ?_
      refine br_ok X (dk rfl) rfl (show ((63 : Nat) : Int) + 26 = ((89 : Nat) : Int) from rfl) (fun c1 => absurd c1 (nI_ge (a := i) (b := 3) (by omega) (by omega))) (fun _ => ?_)
      repeat refine fst1_ok X (dk rfl) rfl ?_
      refine lda_ok X (dk rfl) (XX _ _ a2) e1 (by omega) ?_
      repeat refine fst1_ok X (dk rfl) rfl ?_
      refine callS_ok (av := [.ref b]) (r := [.int z]) X E (c_movedBy hh (e3.ext XX) e4) lkX10_movedBy mlX10_141 lsX10_movedBy ⟨Nat.le_of_ble_eq_true rfl, Nat.le_of_ble_eq_true rfl⟩ ⟨by show 8 * i + 8 ≤ 24; omega, by show 8 * i + 8 ≤ 24; omega⟩ (Nat.le_of_ble_eq_true rfl) (dk rfl) ?_
      rintro v h2 ⟨rfl, E2⟩
      refine callS_ok (av := [vI (movedN x 8)]) (r := [.int z]) X E (c_ones h2 (nI (movedN x 8))) lkX10_ones mlX10_128 lsX10_ones ⟨Nat.le_of_ble_eq_true rfl, Nat.le_of_ble_eq_true rfl⟩ ⟨by show 8 * i + 8 ≤ 24; omega, by show 8 * i + 8 ≤ 24; omega⟩ (Nat.le_of_ble_eq_true rfl) (dk rfl) ?_
      rintro v h3 ⟨rfl, rfl⟩
      repeat refine fst1_ok X (dk rfl) rfl ?_
      refine br_ok X (dk rfl) rfl (show ((86 : Nat) : Int) + (-27) = ((59 : Nat) : Int) from rfl) (fun _ => ?_) (fun q => absurd trivial q)
      refine WS.sel (l' := [(5, vI (i + 1)), (4, vI 3), (3, .ref A), (2, .int (z + bcF (nI (movedN x 8))))]) [5, 4, 3, 2] (by rw [← f2]; rfl) ?_
      refine WS.widen (k' := 8 * (i + 1)) (n' := 8 * (i + 1)) (by show 8 * i + 8 ≤ 8 * (i + 1); omega) (by show 8 * i + 8 ≤ 8 * (i + 1); omega) ?_
      exact ih (i + 1) (by omega) (by omega) _ _ _ (by rw [ez]; show mvN an i + _ = mvN an i + bcF (nI (movedN (an.getD i []) 8)); rw [getD_of e2]) hq3 rfl (XX.trans E2)
  repeat refine fst1_ok X (dk rfl) rfl ?_
  refine br_ok X (dk rfl) rfl (show ((4 : Nat) : Int) + 43 = ((47 : Nat) : Int) from rfl) (fun c3 => ?_) (fun c3 => ?_)
  · repeat refine fst1_ok X (dk rfl) rfl ?_
    refine getf_ok X flX10_16 (dk rfl) M.obj rfl ?_
    iterate 2 refine fst1_ok X (dk rfl) rfl ?_
    refine alen_ok X (by decide) (dk rfl) a2 ?_
    rw [show (as.map Value.ref).length = 3 by rw [List.length_map]; omega]
    iterate 3 refine fst1_ok X (dk rfl) rfl ?_
    exact loopA 3 0 rfl (Nat.zero_le _) _ _ _ (by show Int32.ofInt 0 = (0 : Int32); decide) c3 rfl (Ext.rf h)
  · repeat refine fst1_ok X (dk rfl) rfl ?_
    refine getf_ok X flX10_11 (dk rfl) M.obj rfl ?_
    iterate 2 refine fst1_ok X (dk rfl) rfl ?_
    refine alen_ok X (by decide) (dk rfl) s2 ?_
    rw [show (ss.map Value.ref).length = 6 by rw [List.length_map]; omega]
    iterate 3 refine fst1_ok X (dk rfl) rfl ?_
    exact loopS 6 0 rfl (Nat.zero_le _) _ _ nI_0' (Decidable.not_not.mp c3) rfl
end R14
end Uf14r2
section Uf15q3
/-! the class's house, exactly (printed by wip/q/genQ3.py) -/
/-- the one throw of house() is caught as the first -/
def AXh (res : RS) (st : ST) (h : AH) (E : String) (h' : AH) : Prop := (res.1.1 = 1 ∧ E = iae) ∧ res.2 = st ∧ h' = h
section Q15
variable {la : Launch} {D : va_G} {cA : Nat → ClassId} {B0 pa : Nat} {B Q P : Nat → Nat} {ox : Nat} {kn d r : Int32} {F : Nat → TC}
set_option maxHeartbeats 16000000 in
theorem s6_sizesTogether (h : AH) {st : ST} (C : CLS B Q P ox kn h F d r) (H : FS F st) (O : StO st) : CT la D cA B0 pa yX6_sizesTogether cX6_sizesTogether 6 (some .int) (rmD 5 0 0) [.ref ox] h (RP (.int (nI (szN st.1 6))) h) := by
  refine CT_of (by decide +kernel) (Nat.le_of_ble_eq_true rfl) ?_
  intro p e s m args below meth c X E hr hlk hnm
  have dk : ∀ {pc : Nat} {q : Instr × Nat}, lkd DX6_sizesTogether pc = some q → decode cX6_sizesTogether pc = .ok q := lkd_ok DX6_sizesTogether_ok
  have loop : ∀ (d k : Nat), d = 6 - k → k ≤ 6 → ∀ l : List (Nat × Value), lsel l [4, 3, 2, 1] = [(4, vI k), (3, vI 6), (2, .ref (P 0)), (1, .int (nI (szN st.1 k)))] → WR p la e (rmD 5 0 0) s m args below meth c D cA B0 6 (RP (.int (nI (szN st.1 6))) h) 13 l [] h 0 0 := by
    intro d
    induction d with
    | zero =>
      intro k hd hk l hl
      have hk2 : k = 6 := by omega
      subst hk2
      refine WS.sel [4, 3, 2, 1] hl ?_
      iterate 2 refine fst1_ok X (dk rfl) rfl ?_
      refine br_ok X (dk rfl) rfl (show ((16 : Nat) : Int) + 23 = ((39 : Nat) : Int) from rfl) (fun _ => ?_) (fun q => absurd (Int32.le_refl _) q)
      refine fst1_ok X (dk rfl) rfl ?_
      exact reti_ok X hr hlk rfl (dk rfl) (⟨rfl, rfl⟩) (Nat.le_of_ble_eq_true rfl) (Nat.le_of_ble_eq_true rfl)
    | succ d ih =>
      intro k hd hk l hl
      have f3 : Value.int (nI k + Int32.ofInt 1) = vI (k + 1) := congrArg Value.int (by rw [nI_1', nI_add])
      refine WS.sel [4, 3, 2, 1] hl ?_
      iterate 2 refine fst1_ok X (dk rfl) rfl ?_
      refine br_ok X (dk rfl) rfl (show ((16 : Nat) : Int) + 23 = ((39 : Nat) : Int) from rfl) (fun q => absurd q (nI_ge (a := k) (b := 6) (by omega) (by omega))) (fun _ => ?_)
      iterate 2 refine fst1_ok X (dk rfl) rfl ?_
      refine aldr_ok X (Or.inl rfl) (dk rfl) C.2.2.1.1 (by omega) (rgB_get B 0 (k := k) (by omega)) ?_
      iterate 3 refine fst1_ok X (dk rfl) rfl ?_
      obtain ⟨n1, sj, ej, tj, wj, lj⟩ := H.slot O (j := k) (by omega)
      rw [Nat.zero_add]
      refine callVR_ok (ci := 7) (T := TX5) (N := 3) (av := []) (r := [.int (nI (szN st.1 k))]) X E (s5_length _ C.1 (i := k) (by omega)) lkX5_length mlX6_76 lmX5_length lpX5_length ⟨Nat.le_of_ble_eq_true rfl, Nat.le_of_ble_eq_true rfl⟩ ⟨Nat.le_of_ble_eq_true rfl, Nat.le_of_ble_eq_true rfl⟩ rfl ⟨_, (C.1 k (by omega)).2.1⟩ (Nat.le_of_ble_eq_true rfl) (dk rfl) ?_
      rintro _ rfl
      rw [tj.len]
      refine fst1_ok X (dk rfl) rfl ?_
      have es : szN st.1 (k + 1) = szN st.1 k + n1.length := by
        show szN st.1 k + (st.1.getD k []).length = _
        rw [getD_of sj]
      rw [nI_add, ← es]
      iterate 2 refine fst1_ok X (dk rfl) rfl ?_
      refine br_ok X (dk rfl) rfl (show ((36 : Nat) : Int) + (-23) = ((13 : Nat) : Int) from rfl) (fun _ => ?_) (fun q => absurd trivial q)
      refine WS.sel (l' := [(4, vI (k + 1)), (3, vI 6), (2, .ref (P 0)), (1, .int (nI (szN st.1 (k + 1))))]) [4, 3, 2, 1] (by rw [← f3]; rfl) ?_
      exact ih (k + 1) (by omega) (by omega) _ rfl
  iterate 3 refine fst1_ok X (dk rfl) rfl ?_
  refine getf_ok X flX6_11 (dk rfl) C.2.1 rfl ?_
  iterate 2 refine fst1_ok X (dk rfl) rfl ?_
  refine alen_ok X (by decide) (dk rfl) C.2.2.1.1 ?_
  rw [show ((rgB B 0 6).map Value.ref).length = 6 by simp [rgB]]
  iterate 3 refine fst1_ok X (dk rfl) rfl ?_
  exact loop 6 0 rfl (Nat.zero_le _) _ rfl
set_option maxHeartbeats 16000000 in
theorem s6_movesTogether (h : AH) {st : ST} (C : CLS B Q P ox kn h F d r) (H : FS F st) (O : StO st) : CT la D cA B0 pa yX6_movesTogether cX6_movesTogether 6 (some .int) (rmD 5 0 0) [.ref ox] h (RP (.int (mvN st.2.1 3)) h) := by
  refine CT_of (by decide +kernel) (Nat.le_of_ble_eq_true rfl) ?_
  intro p e s m args below meth c X E hr hlk hnm
  have dk : ∀ {pc : Nat} {q : Instr × Nat}, lkd DX6_movesTogether pc = some q → decode cX6_movesTogether pc = .ok q := lkd_ok DX6_movesTogether_ok
  have loop : ∀ (d k : Nat), d = 3 - k → k ≤ 3 → ∀ l : List (Nat × Value), lsel l [4, 3, 2, 1] = [(4, vI k), (3, vI 3), (2, .ref (P 1)), (1, .int (mvN st.2.1 k))] → WR p la e (rmD 5 0 0) s m args below meth c D cA B0 6 (RP (.int (mvN st.2.1 3)) h) 13 l [] h 0 0 := by
    intro d
    induction d with
    | zero =>
      intro k hd hk l hl
      have hk2 : k = 3 := by omega
      subst hk2
      refine WS.sel [4, 3, 2, 1] hl ?_
      iterate 2 refine fst1_ok X (dk rfl) rfl ?_
      refine br_ok X (dk rfl) rfl (show ((16 : Nat) : Int) + 23 = ((39 : Nat) : Int) from rfl) (fun _ => ?_) (fun q => absurd (Int32.le_refl _) q)
      refine fst1_ok X (dk rfl) rfl ?_
      exact reti_ok X hr hlk rfl (dk rfl) (⟨rfl, rfl⟩) (Nat.le_of_ble_eq_true rfl) (Nat.le_of_ble_eq_true rfl)
    | succ d ih =>
      intro k hd hk l hl
      have f3 : Value.int (nI k + Int32.ofInt 1) = vI (k + 1) := congrArg Value.int (by rw [nI_1', nI_add])
      refine WS.sel [4, 3, 2, 1] hl ?_
      iterate 2 refine fst1_ok X (dk rfl) rfl ?_
      refine br_ok X (dk rfl) rfl (show ((16 : Nat) : Int) + 23 = ((39 : Nat) : Int) from rfl) (fun q => absurd q (nI_ge (a := k) (b := 3) (by omega) (by omega))) (fun _ => ?_)
      iterate 2 refine fst1_ok X (dk rfl) rfl ?_
      refine aldr_ok X (Or.inr rfl) (dk rfl) C.2.2.1.2.1 (by omega) (rgB_get P 7 (k := k) (by omega)) ?_
      iterate 3 refine fst1_ok X (dk rfl) rfl ?_
      obtain ⟨rows, sk, rk⟩ := H.2 k (by omega)
      have ok := C.2.2.1.2.2.1 k (by omega)
      refine callVR_ok (ci := 2) (T := TX0) (N := 1) (av := []) (r := [.int (mvN st.2.1 k)]) X E (s0_movedCount _ C.1 ok rk) lkX0_movedCount mlX6_163 lmX0_movedCount lpX0_movedCount ⟨Nat.le_of_ble_eq_true rfl, Nat.le_of_ble_eq_true rfl⟩ ⟨Nat.le_of_ble_eq_true rfl, Nat.le_of_ble_eq_true rfl⟩ rfl ⟨_, ok.2.choose_spec.1⟩ (Nat.le_of_ble_eq_true rfl) (dk rfl) ?_
      rintro _ rfl
      refine fst1_ok X (dk rfl) rfl ?_
      have es : mvN st.2.1 (k + 1) = mvN st.2.1 k + bcF (nI (movedN rows 8)) := by
        show mvN st.2.1 k + bcF (nI (movedN (st.2.1.getD k []) 8)) = _
        rw [getD_of sk]
      rw [← es]
      iterate 2 refine fst1_ok X (dk rfl) rfl ?_
      refine br_ok X (dk rfl) rfl (show ((36 : Nat) : Int) + (-23) = ((13 : Nat) : Int) from rfl) (fun _ => ?_) (fun q => absurd trivial q)
      refine WS.sel (l' := [(4, vI (k + 1)), (3, vI 3), (2, .ref (P 1)), (1, .int (mvN st.2.1 (k + 1)))]) [4, 3, 2, 1] (by rw [← f3]; rfl) ?_
      exact ih (k + 1) (by omega) (by omega) _ rfl
  iterate 3 refine fst1_ok X (dk rfl) rfl ?_
  refine getf_ok X flX6_17 (dk rfl) C.2.1 rfl ?_
  iterate 2 refine fst1_ok X (dk rfl) rfl ?_
  refine alen_ok X (by decide) (dk rfl) C.2.2.1.2.1 ?_
  rw [show ((rgB P 7 3).map Value.ref).length = 3 by simp [rgB]]
  iterate 3 refine fst1_ok X (dk rfl) rfl ?_
  exact loop 3 0 rfl (Nat.zero_le _) _ rfl
set_option maxHeartbeats 16000000 in
theorem s6_house (h : AH) (hl : la.stackTraces = false) (Y : LYO B Q) {st : ST} (C0 : StC B Q P ox kn h st) (x1 : Int32) : CTX la D cA B0 pa yX6_house cX6_house 2 (some .int) (rmD 7 1 6) [.ref ox, .int x1] h (AP B Q P ox kn (aHouse kn x1 st) h) (AXh (aHouse kn x1 st) st h) := by
  refine CTX_of (by decide +kernel) (Nat.le_of_ble_eq_true rfl) ?_
  intro p e s m args below meth c X E hr hlk hnm ht
  have dk : ∀ {pc : Nat} {q : Instr × Nat}, lkd DX6_house pc = some q → decode cX6_house pc = .ok q := lkd_ok DX6_house_ok
  obtain ⟨F, C, H, O⟩ := id C0
  refine fst1_ok X (dk rfl) rfl ?_
  refine br_ok X (dk rfl) rfl (show ((1 : Nat) : Int) + 8 = ((9 : Nat) : Int) from rfl) (fun c0 => ?_) (fun c0 => ?_)
  · exact throwS_ok X E hl ht hlk xwX6_88 (List.mem_of_getElem? (i := 3) rfl) (dk rfl) (dk rfl) (dk rfl) (dk rfl) (dk rfl) ⟨Nat.le_of_ble_eq_true rfl, Nat.le_of_ble_eq_true rfl⟩ ⟨Nat.le_of_ble_eq_true rfl, Nat.le_of_ble_eq_true rfl⟩ (⟨⟨by unfold aHouse; rw [if_neg (by rw [okI_neg c0]; decide)], rfl⟩, by unfold aHouse; rw [if_neg (by rw [okI_neg c0]; decide)], rfl⟩)
  · obtain ⟨q9, hq9, rfl⟩ := nI_of c0
    iterate 2 refine fst1_ok X (dk rfl) rfl ?_
    refine br_ok X (dk rfl) rfl (show ((6 : Nat) : Int) + 13 = ((19 : Nat) : Int) from rfl) (fun c1 => ?_) (fun c1 => ?_)
    · have q4 : q9 ≤ 4 := (nI_leI (b := 4) (by omega) (by omega)).mp (by rw [show nI 4 = Int32.ofInt 4 by decide +kernel]; exact c1)
      have e : aHouse kn (nI q9) st = ((0, hsN kn q9 st), st) := by
        unfold aHouse
        rw [if_pos (okI_t (show q9 < 5 by omega) (by decide)), xI_n (by omega)]
      rw [e]
      refine fst1_ok X (dk rfl) rfl ?_
      match q9, q4 with
      | 0, _ =>
        refine tsw_ok X (off := 32) (tgt := 52) (dk rfl) (by decide +kernel) (by decide +kernel) (by decide +kernel) rfl ?_
        refine fst1_ok X (dk rfl) rfl ?_
        refine getf_ok X flX6_241 (dk rfl) C.2.1 rfl ?_
        refine WRX.ret ?_
        exact reti_ok X hr hlk rfl (dk rfl) (⟨rfl, rfl, ⟨F, C, H, O⟩, FrC.rf _⟩) (Nat.le_of_ble_eq_true rfl) (Nat.le_of_ble_eq_true rfl)
      | 1, _ =>
        refine tsw_ok X (off := 37) (tgt := 57) (dk rfl) (by decide +kernel) (by decide +kernel) (by decide +kernel) rfl ?_
        refine fst1_ok X (dk rfl) rfl ?_
        refine getf_ok X flX6_245 (dk rfl) C.2.1 rfl ?_
        refine WRX.ret ?_
        exact reti_ok X hr hlk rfl (dk rfl) (⟨rfl, rfl, ⟨F, C, H, O⟩, FrC.rf _⟩) (Nat.le_of_ble_eq_true rfl) (Nat.le_of_ble_eq_true rfl)
      | 2, _ =>
        refine tsw_ok X (off := 42) (tgt := 62) (dk rfl) (by decide +kernel) (by decide +kernel) (by decide +kernel) rfl ?_
        refine fst1_ok X (dk rfl) rfl ?_
        refine getf_ok X flX6_248 (dk rfl) C.2.1 rfl ?_
        refine WRX.ret ?_
        exact reti_ok X hr hlk rfl (dk rfl) (⟨rfl, rfl, ⟨F, C, H, O⟩, FrC.rf _⟩) (Nat.le_of_ble_eq_true rfl) (Nat.le_of_ble_eq_true rfl)
      | 3, _ =>
        refine tsw_ok X (off := 47) (tgt := 67) (dk rfl) (by decide +kernel) (by decide +kernel) (by decide +kernel) rfl ?_
        refine fst1_ok X (dk rfl) rfl ?_
        refine callVR_ok (ci := 8) (T := TX6) (N := 14) (av := []) (r := []) X E (s6_sizesTogether _ C H O) lkX6_sizesTogether mlX6_251 lmX6_sizesTogether lpX6_sizesTogether ⟨Nat.le_of_ble_eq_true rfl, Nat.le_of_ble_eq_true rfl⟩ ⟨Nat.le_of_ble_eq_true rfl, Nat.le_of_ble_eq_true rfl⟩ rfl ⟨_, C.2.1⟩ (Nat.le_of_ble_eq_true rfl) (dk rfl) ?_
        rintro _ rfl
        refine WRX.ret ?_
        exact reti_ok X hr hlk rfl (dk rfl) (⟨rfl, rfl, ⟨F, C, H, O⟩, FrC.rf _⟩) (Nat.le_of_ble_eq_true rfl) (Nat.le_of_ble_eq_true rfl)
      | 4, _ =>
        refine tswo_ok X (tgt := 72) (dk rfl) (by decide +kernel) rfl ?_
        refine fst1_ok X (dk rfl) rfl ?_
        refine callVR_ok (ci := 8) (T := TX6) (N := 14) (av := []) (r := []) X E (s6_movesTogether _ C H O) lkX6_movesTogether mlX6_254 lmX6_movesTogether lpX6_movesTogether ⟨Nat.le_of_ble_eq_true rfl, Nat.le_of_ble_eq_true rfl⟩ ⟨Nat.le_of_ble_eq_true rfl, Nat.le_of_ble_eq_true rfl⟩ rfl ⟨_, C.2.1⟩ (Nat.le_of_ble_eq_true rfl) (dk rfl) ?_
        rintro _ rfl
        refine WRX.ret ?_
        exact reti_ok X hr hlk rfl (dk rfl) (⟨rfl, rfl, ⟨F, C, H, O⟩, FrC.rf _⟩) (Nat.le_of_ble_eq_true rfl) (Nat.le_of_ble_eq_true rfl)
    · exact throwS_ok X E hl ht hlk xwX6_88 (List.mem_of_getElem? (i := 3) rfl) (dk rfl) (dk rfl) (dk rfl) (dk rfl) (dk rfl) ⟨Nat.le_of_ble_eq_true rfl, Nat.le_of_ble_eq_true rfl⟩ ⟨Nat.le_of_ble_eq_true rfl, Nat.le_of_ble_eq_true rfl⟩ (⟨⟨by unfold aHouse; rw [if_neg (by rw [okI_big (by rcases Nat.lt_or_ge 4 q9 with z | z; exact z; exact absurd ((nI_leI (by omega) (by omega)).mpr z) (by rw [show nI 4 = Int32.ofInt 4 by decide +kernel]; exact c1)) hq9]; decide)], rfl⟩, by unfold aHouse; rw [if_neg (by rw [okI_big (by rcases Nat.lt_or_ge 4 q9 with z | z; exact z; exact absurd ((nI_leI (by omega) (by omega)).mpr z) (by rw [show nI 4 = Int32.ofInt 4 by decide +kernel]; exact c1)) hq9]; decide)], rfl⟩)
end Q15
end Uf15q3
section Uf16q4
/-! depth: how many terms a place lies in (printed by wip/q/genQ4.py) -/
/-- how many numbers below n -/
def ctF (P : Nat → Bool) : Nat → Nat
  | 0 => 0
  | n + 1 => ctF P n + (if P n = true then 1 else 0)
theorem ctF_congr {P Q : Nat → Bool} : ∀ {n : Nat}, (∀ k, k < n → P k = Q k) → ctF P n = ctF Q n
  | 0, _ => rfl
  | n + 1, h => by
    show ctF P n + (if P n = true then 1 else 0) = ctF Q n + (if Q n = true then 1 else 0)
    rw [ctF_congr (fun k hk => h k (by omega)), h n (by omega)]
theorem ctF_none {P : Nat → Bool} : ∀ {n : Nat}, (∀ k, k < n → P k = false) → ctF P n = 0
  | 0, _ => rfl
  | n + 1, h => by
    show ctF P n + (if P n = true then 1 else 0) = 0
    rw [ctF_none (fun k hk => h k (by omega)), h n (by omega)]
    rfl
theorem ctF_le (P : Nat → Bool) : ∀ n : Nat, ctF P n ≤ n
  | 0 => Nat.le_refl _
  | n + 1 => by
    show ctF P n + (if P n = true then 1 else 0) ≤ n + 1
    have := ctF_le P n
    split <;> omega
theorem ctF_more {P Q : Nat → Bool} {p : Nat} : ∀ {n : Nat}, p < n → P p = true → Q p = false → (∀ k, k < n → k ≠ p → P k = Q k) → ctF P n = ctF Q n + 1
  | 0, h, _, _, _ => absurd h (Nat.not_lt_zero _)
  | n + 1, h, hP, hQ, he => by
    show ctF P n + (if P n = true then 1 else 0) = ctF Q n + (if Q n = true then 1 else 0) + 1
    by_cases e : p = n
    · subst e
      rw [ctF_congr (fun k hk => he k (by omega) (by omega)), hP, hQ]
      simp
    · rw [ctF_more (n := n) (by omega) hP hQ (fun k hk => he k (by omega)), he n (by omega) (fun z => e z.symm)]
      omega
theorem ctF_or {P Q R : Nat → Bool} : ∀ {n : Nat}, (∀ k, k < n → P k = (Q k || R k) ∧ (Q k && R k) = false) → ctF P n = ctF Q n + ctF R n
  | 0, _ => rfl
  | n + 1, h => by
    show ctF P n + (if P n = true then 1 else 0) = ctF Q n + (if Q n = true then 1 else 0) + (ctF R n + (if R n = true then 1 else 0))
    obtain ⟨h1, h2⟩ := h n (by omega)
    rw [ctF_or (fun k hk => h k (by omega)), h1]
    cases hq : Q n <;> cases hr : R n
    · simp
    · simp
      omega
    · simp
      omega
    · rw [hq, hr] at h2
      cases h2
def mxF (g : Nat → Nat) : Nat → Nat
  | 0 => 0
  | n + 1 => max (mxF g n) (g n)
theorem mxF_congr {g g' : Nat → Nat} : ∀ {n : Nat}, (∀ k, k < n → g k = g' k) → mxF g n = mxF g' n
  | 0, _ => rfl
  | n + 1, h => by
    show max (mxF g n) (g n) = max (mxF g' n) (g' n)
    rw [mxF_congr (fun k hk => h k (by omega)), h n (by omega)]
theorem mxF_add (g : Nat → Nat) (a : Nat) : ∀ b : Nat, mxF g (a + b) = max (mxF g a) (mxF (fun j => g (a + j)) b)
  | 0 => (Nat.max_eq_left (Nat.zero_le _)).symm
  | b + 1 => by
    show max (mxF g (a + b)) (g (a + b)) = max (mxF g a) (max (mxF (fun j => g (a + j)) b) (g (a + b)))
    rw [mxF_add g a b, Nat.max_assoc]
theorem mxF_one (g : Nat → Nat) : ∀ n : Nat, max 1 (mxF (fun j => g j + 1) n) = mxF g n + 1
  | 0 => rfl
  | n + 1 => by
    show max 1 (max (mxF (fun j => g j + 1) n) (g n + 1)) = max (mxF g n) (g n) + 1
    have := mxF_one g n
    omega
theorem mxF_le {g : Nat → Nat} {b : Nat} : ∀ {n : Nat}, (∀ k, k < n → g k ≤ b) → mxF g n ≤ b
  | 0, _ => Nat.zero_le _
  | n + 1, h => Nat.max_le.mpr ⟨mxF_le (fun k hk => h k (by omega)), h n (by omega)⟩
/-- of the terms that begin at a place p or later: how many hold the place i -/
def lv (xs : List Nat) (p i : Nat) : Nat := ctF (fun k => decide (p ≤ k ∧ i < k + tl xs k)) (i + 1)
def lvM (xs : List Nat) (p n : Nat) : Nat := mxF (fun j => lv xs p (p + j)) n
theorem lv_le (xs : List Nat) (p i : Nat) : lv xs p i ≤ i + 1 := ctF_le _ _
/-- what begins within a term ends within it -/
theorem nested {xs : List Nat} {k t i : Nat} (hk : endL 1 (xs.drop k) = some t) (h1 : k ≤ i) (h2 : i < k + t) : endL 1 (xs.drop i) = some (tl xs i) ∧ 0 < tl xs i ∧ i + tl xs i ≤ k + t := by
  have hle := endL_le hk
  have hs := endL_take _ _ _ hk
  have hl : ((xs.drop k).take t).length = t := by rw [List.length_take]; omega
  obtain ⟨u, hu⟩ := endL_at ((xs.drop k).take t) 1 (i - k) (by rw [hl]; exact hs) (by omega)
  have ule := endL_le hu
  rw [List.length_drop, hl] at ule
  have e : xs.drop i = ((xs.drop k).take t).drop (i - k) ++ (xs.drop k).drop t := by
    rw [← List.drop_append_of_le_length (by omega), List.take_append_drop, List.drop_drop]
    congr 1
    omega
  have h := endL_app _ ((xs.drop k).drop t) _ _ hu
  rw [← e] at h
  have et : tl xs i = u := by unfold tl; rw [h]; rfl
  exact ⟨by rw [et]; exact h, by rw [et]; exact endL_pos (n := 0) hu, by omega⟩
theorem lv_in {xs : List Nat} {q t i : Nat} (hcl : ∀ k, q ≤ k → k < q + t → k + tl xs k ≤ q + t) (hi : q + t ≤ i) : lv xs q i = lv xs (q + t) i := ctF_congr (fun k _ => by
  by_cases h : q + t ≤ k
  · rw [Bool.eq_iff_iff, decide_eq_true_iff, decide_eq_true_iff]
    constructor <;> rintro ⟨a, b⟩ <;> exact ⟨by omega, b⟩
  · by_cases h2 : q ≤ k
    · have := hcl k h2 (by omega)
      rw [decide_eq_false (fun z => by omega), decide_eq_false (fun z => by omega)]
    · rw [decide_eq_false (fun z => by omega), decide_eq_false (fun z => by omega)])
theorem lvM_app {xs : List Nat} {q t u : Nat} (hcl : ∀ k, q ≤ k → k < q + t → k + tl xs k ≤ q + t) : lvM xs q (t + u) = max (lvM xs q t) (lvM xs (q + t) u) := by
  unfold lvM
  rw [mxF_add]
  congr 1
  exact mxF_congr (fun j _ => by rw [← Nat.add_assoc]; exact lv_in hcl (by omega))
/-- a term is one deeper than what is within it -/
theorem lvM_head {xs : List Nat} {p t : Nat} (hp : endL 1 (xs.drop p) = some (t + 1)) : lvM xs p (t + 1) = lvM xs (p + 1) t + 1 := by
  have tp : tl xs p = t + 1 := tl_of hp
  have h0 : lv xs p p = 1 := by
    show ctF (fun k => decide (p ≤ k ∧ p < k + tl xs k)) p + (if decide (p ≤ p ∧ p < p + tl xs p) = true then 1 else 0) = 1
    rw [ctF_none (fun k hk => decide_eq_false (fun z => by omega)), if_pos (decide_eq_true ⟨Nat.le_refl _, by omega⟩)]
  have h1 : ∀ j, j < t → lv xs p (p + 1 + j) = lv xs (p + 1) (p + 1 + j) + 1 := fun j hj => ctF_more (p := p) (by omega) (decide_eq_true ⟨Nat.le_refl _, by omega⟩) (decide_eq_false (fun z => by omega)) (fun k _ hk => by
    rw [Bool.eq_iff_iff, decide_eq_true_iff, decide_eq_true_iff]
    constructor <;> rintro ⟨a, b⟩ <;> exact ⟨by omega, b⟩)
  show mxF (fun j => lv xs p (p + j)) (t + 1) = _
  rw [Nat.add_comm t 1, mxF_add]
  have e1 : mxF (fun j => lv xs p (p + j)) 1 = 1 := by
    show max 0 (lv xs p (p + 0)) = 1
    rw [Nat.add_zero, h0]
    rfl
  rw [e1, mxF_congr (g' := fun j => lv xs (p + 1) (p + 1 + j) + 1) (fun j hj => by rw [← Nat.add_assoc]; exact h1 j hj)]
  exact mxF_one _ t
/-- how many terms end with a place -/
def cbN (xs : List Nat) (i : Nat) : Nat := ctF (fun k => decide (k + tl xs k = i + 1)) i
theorem lv_step {xs : List Nat} (h : TW xs) {i x : Nat} (hx : xs[i]? = some x) (hi : i + 1 < xs.length) : (0 < pF x → lv xs 0 (i + 1) = lv xs 0 i + 1) ∧ (pF x = 0 → lv xs 0 (i + 1) + cbN xs i = lv xs 0 i) := by
  have e0 : endL 1 (xs.drop 0) = some xs.length := by rw [List.drop_zero]; exact h.1
  obtain ⟨a1, a2, a3⟩ := nested e0 (i := i) (Nat.zero_le _) (by omega)
  obtain ⟨b1, b2, b3⟩ := nested e0 (i := i + 1) (Nat.zero_le _) (by omega)
  have et : tl xs i = ((endL (pF x) (xs.drop (i + 1))).map (· + 1)).getD 0 := by
    unfold tl
    rw [drop_cons hx]
    show ((endL (0 + pF x) (xs.drop (i + 1))).map (· + 1)).getD 0 = _
    rw [Nat.zero_add]
  have f1 : lv xs 0 (i + 1) = ctF (fun k => decide (0 ≤ k ∧ i + 1 < k + tl xs k)) (i + 1) + 1 := by
    show ctF _ (i + 1) + (if decide (0 ≤ i + 1 ∧ i + 1 < i + 1 + tl xs (i + 1)) = true then 1 else 0) = _
    rw [if_pos (decide_eq_true ⟨Nat.zero_le _, by omega⟩)]
  constructor
  · intro hp
    have t2 : 2 ≤ tl xs i := by
      cases e : endL (pF x) (xs.drop (i + 1)) with
      | none => rw [e] at et; simp at et; omega
      | some K =>
        rw [e] at et
        have : 0 < K := by
          obtain ⟨m, hm⟩ : ∃ m, pF x = m + 1 := ⟨pF x - 1, by omega⟩
          rw [hm] at e
          exact endL_pos e
        simp at et
        omega
    rw [f1]
    congr 1
    exact ctF_congr (fun k hk => by
      rw [Bool.eq_iff_iff, decide_eq_true_iff, decide_eq_true_iff]
      obtain ⟨c1, c2, c3⟩ := nested e0 (i := k) (Nat.zero_le _) (by omega)
      constructor
      · rintro ⟨a, b⟩
        exact ⟨a, by omega⟩
      · rintro ⟨a, b⟩
        obtain ⟨d1, d2, d3⟩ := nested c1 (i := i) (by omega) (by omega)
        exact ⟨a, by omega⟩)
  · intro hp
    have t1 : tl xs i = 1 := by
      have z0 : ∀ r : List Nat, endL 0 r = some 0 := fun r => by cases r <;> rfl
      rw [hp, z0] at et
      exact et
    have g1 : lv xs 0 i = ctF (fun k => decide (0 ≤ k ∧ i < k + tl xs k)) i + 1 := by
      show ctF _ i + (if decide (0 ≤ i ∧ i < i + tl xs i) = true then 1 else 0) = _
      rw [if_pos (decide_eq_true ⟨Nat.zero_le _, by omega⟩)]
    have g2 : ctF (fun k => decide (0 ≤ k ∧ i + 1 < k + tl xs k)) (i + 1) = ctF (fun k => decide (0 ≤ k ∧ i + 1 < k + tl xs k)) i := by
      show ctF _ i + (if decide (0 ≤ i ∧ i + 1 < i + tl xs i) = true then 1 else 0) = _
      rw [if_neg (fun z => by have := of_decide_eq_true z; omega)]
      rfl
    have g3 : ctF (fun k => decide (0 ≤ k ∧ i < k + tl xs k)) i = ctF (fun k => decide (0 ≤ k ∧ i + 1 < k + tl xs k)) i + cbN xs i := ctF_or (fun k hk => by
      constructor
      · rw [Bool.eq_iff_iff, Bool.or_eq_true, decide_eq_true_iff, decide_eq_true_iff, decide_eq_true_iff]
        omega
      · by_cases z : i + 1 < k + tl xs k
        · rw [decide_eq_false (show ¬ k + tl xs k = i + 1 by omega), Bool.and_false]
        · rw [decide_eq_false (fun q => z q.2), Bool.false_and])
    rw [f1, g1, g2, g3]
    omega
def aDepth (x1 : Int32) (st : ST) : RS := if okI 6 x1 then ((0, nI (lvM (st.1.getD (xI x1) []) 0 (st.1.getD (xI x1) []).length)), st) else ((1, 0), st)
section Q16
variable {la : Launch} {D : va_G} {cA : Nat → ClassId} {B0 pa : Nat} {B Q P : Nat → Nat} {ox : Nat} {kn d r : Int32} {F : Nat → TC}
set_option maxHeartbeats 16000000 in
theorem s5_closedBehind (h : AH) (S : TS B Q h F) {i : Nat} (hi : i < 52) {ns : List Nat} (hN : TN (F i) ns) (wt : TW ns) (ln : ns.length ≤ 16) {z : Nat} (hz : z < ns.length) : CT la D cA B0 pa yX5_closedBehind cX5_closedBehind 4 (some .int) (rmD 2 0 0) [.ref (B i), vI z] h (RP (vI (cbN ns z)) h) := by
  refine CT_of (by decide +kernel) (Nat.le_of_ble_eq_true rfl) ?_
  intro p e s m args below meth c X E hr hlk hnm
  have dk : ∀ {pc : Nat} {q : Instr × Nat}, lkd DX5_closedBehind pc = some q → decode cX5_closedBehind pc = .ok q := lkd_ok DX5_closedBehind_ok
  have loop : ∀ (d k : Nat), d = z - k → k ≤ z → ∀ l : List (Nat × Value), lsel l [3, 2, 1, 0] = [(3, vI k), (2, vI (ctF (fun k => decide (k + tl ns k = z + 1)) k)), (1, vI z), (0, .ref (B i))] → WR p la e (rmD 2 0 0) s m args below meth c D cA B0 4 (RP (vI (cbN ns z)) h) 4 l [] h 0 0 := by
    intro d
    induction d with
    | zero =>
      intro k hd hk l hl
      have hk2 : k = z := by omega
      subst hk2
      refine WS.sel [3, 2, 1, 0] hl ?_
      iterate 2 refine fst1_ok X (dk rfl) rfl ?_
      refine br_ok X (dk rfl) rfl (show ((6 : Nat) : Int) + 23 = ((29 : Nat) : Int) from rfl) (fun _ => ?_) (fun q => absurd (Int32.le_refl _) q)
      refine fst1_ok X (dk rfl) rfl ?_
      exact reti_ok X hr hlk rfl (dk rfl) (⟨rfl, rfl⟩) (Nat.le_of_ble_eq_true rfl) (Nat.le_of_ble_eq_true rfl)
    | succ d ih =>
      intro k hd hk l hl
      have f3 : Value.int (nI k + Int32.ofInt 1) = vI (k + 1) := congrArg Value.int (by rw [nI_1', nI_add])
      obtain ⟨k1, k2, k3⟩ := nested (xs := ns) (k := 0) (t := ns.length) (i := k) (by rw [List.drop_zero]; exact wt.1) (Nat.zero_le _) (by omega)
      refine WS.sel [3, 2, 1, 0] hl ?_
      iterate 2 refine fst1_ok X (dk rfl) rfl ?_
      refine br_ok X (dk rfl) rfl (show ((6 : Nat) : Int) + 23 = ((29 : Nat) : Int) from rfl) (fun q => absurd q (nI_ge (by omega) (by omega))) (fun _ => ?_)
      iterate 2 refine fst1_ok X (dk rfl) rfl ?_
      refine callVR_ok (ci := 7) (T := TX5) (N := 3) (av := [vI k]) (r := []) X E (s5_endOf h S hi hN k1) lkX5_endOf mlX5_62 lmX5_endOf lpX5_endOf ⟨Nat.le_of_ble_eq_true rfl, Nat.le_of_ble_eq_true rfl⟩ ⟨Nat.le_of_ble_eq_true rfl, Nat.le_of_ble_eq_true rfl⟩ rfl ⟨_, (S i hi).2.1⟩ (Nat.le_of_ble_eq_true rfl) (dk rfl) ?_
      rintro _ rfl
      iterate 3 refine fst1_ok X (dk rfl) rfl ?_
      rw [nI_1', nI_add]
      by_cases e1 : k + tl ns k = z + 1
      · have c4 : vI (ctF (fun k => decide (k + tl ns k = z + 1)) (k + 1)) = Value.int (nI (ctF (fun k => decide (k + tl ns k = z + 1)) k) + Int32.ofInt 1) := by
          have c5 : ctF (fun k => decide (k + tl ns k = z + 1)) (k + 1) = ctF (fun k => decide (k + tl ns k = z + 1)) k + 1 := by
            show ctF (fun k => decide (k + tl ns k = z + 1)) k + (if decide (k + tl ns k = z + 1) = true then 1 else 0) = _
            rw [if_pos (decide_eq_true e1)]
          rw [c5, nI_1', nI_add]
          rfl
        refine br_ok X (dk rfl) rfl (show ((17 : Nat) : Int) + 6 = ((23 : Nat) : Int) from rfl) (fun q => absurd (by rw [e1]) q) (fun _ => ?_)
        refine fst1_ok X (dk rfl) rfl ?_
        refine fst1_ok X (dk rfl) rfl ?_
        refine br_ok X (dk rfl) rfl (show ((26 : Nat) : Int) + (-22) = ((4 : Nat) : Int) from rfl) (fun _ => ?_) (fun q => absurd trivial q)
        refine WS.sel (l' := [(3, vI (k + 1)), (2, vI (ctF (fun k => decide (k + tl ns k = z + 1)) (k + 1))), (1, vI z), (0, .ref (B i))]) [3, 2, 1, 0] (by rw [← f3, c4]; rfl) ?_
        exact ih (k + 1) (by omega) (by omega) _ rfl
      · have c4 : vI (ctF (fun k => decide (k + tl ns k = z + 1)) (k + 1)) = vI (ctF (fun k => decide (k + tl ns k = z + 1)) k) := by
          have c5 : ctF (fun k => decide (k + tl ns k = z + 1)) (k + 1) = ctF (fun k => decide (k + tl ns k = z + 1)) k := by
            show ctF (fun k => decide (k + tl ns k = z + 1)) k + (if decide (k + tl ns k = z + 1) = true then 1 else 0) = _
            rw [if_neg (fun y => e1 (of_decide_eq_true y))]
            rfl
          rw [c5]
        refine br_ok X (dk rfl) rfl (show ((17 : Nat) : Int) + 6 = ((23 : Nat) : Int) from rfl) (fun _ => ?_) (fun q => absurd (fun y => e1 (nI_inj (by omega) (by omega) y)) q)
        refine fst1_ok X (dk rfl) rfl ?_
        refine br_ok X (dk rfl) rfl (show ((26 : Nat) : Int) + (-22) = ((4 : Nat) : Int) from rfl) (fun _ => ?_) (fun q => absurd trivial q)
        refine WS.sel (l' := [(3, vI (k + 1)), (2, vI (ctF (fun k => decide (k + tl ns k = z + 1)) (k + 1))), (1, vI z), (0, .ref (B i))]) [3, 2, 1, 0] (by rw [← f3, c4]; rfl) ?_
        exact ih (k + 1) (by omega) (by omega) _ rfl
  iterate 4 refine fst1_ok X (dk rfl) rfl ?_
  exact loop _ 0 rfl (Nat.zero_le _) _ rfl
set_option maxHeartbeats 32000000 in
theorem s5_levels (h : AH) (S : TS B Q h F) {i : Nat} (hi : i < 52) {ns : List Nat} (hN : TN (F i) ns) (wt : TW ns) (ln : ns.length ≤ 16) : CT la D cA B0 pa yX5_levels cX5_levels 4 (some .int) (rmD 3 0 0) [.ref (B i)] h (RP (vI (lvM ns 0 ns.length)) h) := by
  refine CT_of (by decide +kernel) (Nat.le_of_ble_eq_true rfl) ?_
  intro p e s m args below meth c X E hr hlk hnm
  have dk : ∀ {pc : Nat} {q : Instr × Nat}, lkd DX5_levels pc = some q → decode cX5_levels pc = .ok q := lkd_ok DX5_levels_ok
  have loop : ∀ (d k : Nat) (y : Int32), d = ns.length - k → k ≤ ns.length → (k < ns.length → y = nI (lv ns 0 k)) → ∀ l : List (Nat × Value), lsel l [3, 2, 1, 0] = [(3, vI k), (2, vI (max 1 (lvM ns 0 k))), (1, .int y), (0, .ref (B i))] → WR p la e (rmD 3 0 0) s m args below meth c D cA B0 4 (RP (vI (lvM ns 0 ns.length)) h) 6 l [] h 0 0 := by
    intro d
    induction d with
    | zero =>
      intro k y hd hk hy l hl
      have hk2 : k = ns.length := by omega
      subst hk2
      refine WS.sel [3, 2, 1, 0] hl ?_
      iterate 2 refine fst1_ok X (dk rfl) rfl ?_
      refine getf_ok X flX5_21 (dk rfl) (S i hi).2.1 rfl ?_
      rw [hN.len]
      refine br_ok X (dk rfl) rfl (show ((11 : Nat) : Int) + 39 = ((50 : Nat) : Int) from rfl) (fun _ => ?_) (fun q => absurd (Int32.le_refl _) q)
      refine fst1_ok X (dk rfl) rfl ?_
      have e1 : max 1 (lvM ns 0 ns.length) = lvM ns 0 ns.length := by
        have h0 := wt.pos
        obtain ⟨m, hm⟩ : ∃ m, ns.length = m + 1 := ⟨ns.length - 1, by omega⟩
        have := lvM_head (xs := ns) (p := 0) (t := m) (by rw [List.drop_zero, ← hm]; exact wt.1)
        rw [hm, this]
        omega
      rw [e1]
      exact reti_ok X hr hlk rfl (dk rfl) (⟨rfl, rfl⟩) (Nat.le_of_ble_eq_true rfl) (Nat.le_of_ble_eq_true rfl)
    | succ d ih =>
      intro k y hd hk hy l hl
      have f3 : Value.int (nI k + Int32.ofInt 1) = vI (k + 1) := congrArg Value.int (by rw [nI_1', nI_add])
      have hk0 : k < ns.length := by omega
      obtain ⟨x, hx⟩ : ∃ x, ns[k]? = some x := ⟨_, List.getElem?_eq_getElem hk0⟩
      have hxl := (hN.2 x (List.mem_of_getElem? hx)).lt
      have ey := hy hk0
      subst ey
      have l1 := lv_le ns 0 k
      have m1 : lvM ns 0 k ≤ 16 := mxF_le (fun j hj => by have := lv_le ns 0 (0 + j); omega)
      have em : lvM ns 0 (k + 1) = max (lvM ns 0 k) (lv ns 0 k) := by
        show max (mxF (fun j => lv ns 0 (0 + j)) k) (lv ns 0 (0 + k)) = _
        rw [Nat.zero_add]
        rfl
      have emx : max (max 1 (lvM ns 0 k)) (lv ns 0 k) = max 1 (lvM ns 0 (k + 1)) := by omega
      have st := fun hi => lv_step wt hx hi
      refine WS.sel [3, 2, 1, 0] hl ?_
      iterate 2 refine fst1_ok X (dk rfl) rfl ?_
      refine getf_ok X flX5_21 (dk rfl) (S i hi).2.1 rfl ?_
      rw [hN.len]
      refine br_ok X (dk rfl) rfl (show ((11 : Nat) : Int) + 39 = ((50 : Nat) : Int) from rfl) (fun q => absurd q (nI_ge (by omega) (by omega))) (fun _ => ?_)
      iterate 2 refine fst1_ok X (dk rfl) rfl ?_
      refine mmax_ok X (by omega) (by omega) mlX5_9 (dk rfl) (by decide) (Nat.le_of_ble_eq_true rfl) (Nat.le_of_ble_eq_true rfl) (Nat.le_of_ble_eq_true rfl) ?_
      rw [emx]
      iterate 4 refine fst1_ok X (dk rfl) rfl ?_
      refine callVR_ok (ci := 7) (T := TX5) (N := 3) (av := [vI k]) (r := [.int (nI (lv ns 0 k))]) X E (s5_letterAt h S hi (nI k)) lkX5_letterAt mlX5_29 lmX5_letterAt lpX5_letterAt ⟨Nat.le_of_ble_eq_true rfl, Nat.le_of_ble_eq_true rfl⟩ ⟨Nat.le_of_ble_eq_true rfl, Nat.le_of_ble_eq_true rfl⟩ rfl ⟨_, (S i hi).2.1⟩ (Nat.le_of_ble_eq_true rfl) (dk rfl) ?_
      rintro _ rfl
      rw [hN.lt hx (by omega)]
      refine callNR_ok (av := [vI x]) (r := [.int (nI (lv ns 0 k))]) X E (s6_partsOf h (x := x) (by rcases hN.2 x (List.mem_of_getElem? hx) with q | q <;> omega)) lkX6_partsOf mnX5_59 lsX6_partsOf ⟨Nat.le_of_ble_eq_true rfl, Nat.le_of_ble_eq_true rfl⟩ ⟨Nat.le_of_ble_eq_true rfl, Nat.le_of_ble_eq_true rfl⟩ (Nat.le_of_ble_eq_true rfl) (dk rfl) ?_
      rintro _ rfl
      have p20 : pF x < 2 ^ 20 := by unfold pF; split <;> omega
      by_cases e1 : pF x = 0
      · refine br_ok X (dk rfl) rfl (show ((29 : Nat) : Int) + 7 = ((36 : Nat) : Int) from rfl) (fun _ => ?_) (fun q => absurd (by rw [e1]; decide) q)
        iterate 2 refine fst1_ok X (dk rfl) rfl ?_
        refine callVR_ok (ci := 7) (T := TX5) (N := 3) (av := [vI k]) (r := [.int (nI (lv ns 0 k))]) X E (s5_closedBehind h S hi hN wt ln hk0) lkX5_closedBehind mlX5_65 lmX5_closedBehind lpX5_closedBehind ⟨Nat.le_of_ble_eq_true rfl, Nat.le_of_ble_eq_true rfl⟩ ⟨Nat.le_of_ble_eq_true rfl, Nat.le_of_ble_eq_true rfl⟩ rfl ⟨_, (S i hi).2.1⟩ (Nat.le_of_ble_eq_true rfl) (dk rfl) ?_
        rintro _ rfl
        refine fst1_ok X (dk rfl) rfl ?_
        iterate 2 refine fst1_ok X (dk rfl) rfl ?_
        refine fst1_ok X (dk rfl) rfl ?_
        refine br_ok X (dk rfl) rfl (show ((47 : Nat) : Int) + (-41) = ((6 : Nat) : Int) from rfl) (fun _ => ?_) (fun q => absurd trivial q)
        refine WS.sel (l' := [(3, vI (k + 1)), (2, vI (max 1 (lvM ns 0 (k + 1)))), (1, .int (nI (lv ns 0 k) + -(nI (cbN ns k)))), (0, .ref (B i))]) [3, 2, 1, 0] (by rw [← f3]; rfl) ?_
        exact ih (k + 1) _ (by omega) (by omega) (fun hi1 => by
          have := (st hi1).2 e1
          rw [← Int32.sub_eq_add_neg, nI_sub (by omega)]
          congr 1
          omega) _ rfl
      · refine br_ok X (dk rfl) rfl (show ((29 : Nat) : Int) + 7 = ((36 : Nat) : Int) from rfl) (fun q => absurd (nI_le0 (by omega) q) e1) (fun _ => ?_)
        refine fst1_ok X (dk rfl) rfl ?_
        refine br_ok X (dk rfl) rfl (show ((33 : Nat) : Int) + 9 = ((42 : Nat) : Int) from rfl) (fun _ => ?_) (fun q => absurd trivial q)
        iterate 2 refine fst1_ok X (dk rfl) rfl ?_
        refine fst1_ok X (dk rfl) rfl ?_
        refine br_ok X (dk rfl) rfl (show ((47 : Nat) : Int) + (-41) = ((6 : Nat) : Int) from rfl) (fun _ => ?_) (fun q => absurd trivial q)
        refine WS.sel (l' := [(3, vI (k + 1)), (2, vI (max 1 (lvM ns 0 (k + 1)))), (1, .int (nI (lv ns 0 k) + Int32.ofInt 1)), (0, .ref (B i))]) [3, 2, 1, 0] (by rw [← f3]; rfl) ?_
        exact ih (k + 1) _ (by omega) (by omega) (fun hi1 => by
          rw [(st hi1).1 (by omega), nI_1', nI_add]) _ rfl
  iterate 6 refine fst1_ok X (dk rfl) rfl ?_
  exact loop _ 0 _ rfl (Nat.zero_le _) (fun h0 => by
    have t0 : tl ns 0 = ns.length := by unfold tl; rw [List.drop_zero, wt.1]; rfl
    have : lv ns 0 0 = 1 := by
      show 0 + (if decide (0 ≤ 0 ∧ 0 < 0 + tl ns 0) = true then 1 else 0) = 1
      rw [if_pos (decide_eq_true ⟨Nat.le_refl _, by omega⟩)]
    rw [this, nI_1']) _ rfl
set_option maxHeartbeats 8000000 in
theorem s6_depth (h : AH) (hl : la.stackTraces = false) (Y : LYO B Q) {st : ST} (C0 : StC B Q P ox kn h st) (x1 : Int32) : CTX la D cA B0 pa yX6_depth cX6_depth 2 (some .int) (rmD 7 1 6) [.ref ox, .int x1] h (AP B Q P ox kn (aDepth x1 st) h) (AX (aDepth x1 st) st h) := by
  refine CTX_of (by decide +kernel) (Nat.le_of_ble_eq_true rfl) ?_
  intro p e s m args below meth c X E hr hlk hnm ht
  have dk : ∀ {pc : Nat} {q : Instr × Nat}, lkd DX6_depth pc = some q → decode cX6_depth pc = .ok q := lkd_ok DX6_depth_ok
  obtain ⟨F, C, H, O⟩ := id C0
  iterate 2 refine fst1_ok X (dk rfl) rfl ?_
  refine callVX_ok (ci := 8) (T := TX6) (N := 14) (av := [.int x1]) (r := []) X E ht hlk (s6_termOf h hl C x1) (fun E1 h1 z => AX.one (by unfold aDepth; rw [if_neg (by rw [okI_f z.2.1]; decide)]) ⟨z.1, z.2.2⟩) lkX6_termOf mlX6_69 lmX6_termOf lpX6_termOf ⟨Nat.le_of_ble_eq_true rfl, Nat.le_of_ble_eq_true rfl⟩ ⟨Nat.le_of_ble_eq_true rfl, Nat.le_of_ble_eq_true rfl⟩ rfl C.2.1 (Nat.le_of_ble_eq_true rfl) (dk rfl) ?_
  rintro _ h1 ⟨⟨j, hj, rfl, rfl⟩, eh⟩
  obtain rfl := eh.symm
  obtain ⟨nj, sj, ej, tj, wj, lj⟩ := H.slot O hj
  refine callVR_ok (ci := 7) (T := TX5) (N := 3) (av := []) (r := []) X E (s5_levels _ C.1 (i := j) (by omega) tj wj lj) lkX5_levels mlX6_201 lmX5_levels lpX5_levels ⟨Nat.le_of_ble_eq_true rfl, Nat.le_of_ble_eq_true rfl⟩ ⟨Nat.le_of_ble_eq_true rfl, Nat.le_of_ble_eq_true rfl⟩ rfl ⟨_, (C.1 j (by omega)).2.1⟩ (Nat.le_of_ble_eq_true rfl) (dk rfl) ?_
  rintro _ rfl
  have e : aDepth (nI j) st = ((0, nI (lvM nj 0 nj.length)), st) := by
    unfold aDepth
    rw [if_pos (okI_t hj (by decide)), xI_n (by omega), getD_of sj]
  rw [e]
  refine WRX.ret ?_
  exact reti_ok X hr hlk rfl (dk rfl) (⟨rfl, rfl, ⟨F, C, H, O⟩, FrC.rf _⟩) (Nat.le_of_ble_eq_true rfl) (Nat.le_of_ble_eq_true rfl)
end Q16
end Uf16q4
section Uf17r4
/-! the reference's depth, exactly (printed by wip/q/genR4.py) -/
section R17
variable {la : Launch} {D : va_G} {cA : Nat → ClassId} {B0 pa : Nat} {o S A : Nat} {sl : List (List Nat)} {an : List (List (List Nat))} {da dr kn th : Int32}
set_option maxHeartbeats 8000000 in
theorem RF.x_depthOf (h : AH) {a : Nat} {xs : List Nat} (ha : h a = some (IA xs)) (hn : xs.length < 2 ^ 9) (hx : ∀ x ∈ xs, x < 2 ^ 10) : ∀ (f at' k : Nat), endL 1 (xs.drop at') = some k → k ≤ f → CT la D cA B0 pa yX10_depthOf cX10_depthOf 5 (some .int) (rmD (2 + f) 0 0) [.ref a, vI at'] h (fun v h' => v = some (vI (lvM xs at' k)) ∧ h' = h) := by
  intro f
  induction f with
  | zero => intro at' k hk hkf; have := endL_pos (n := 0) hk; omega
  | succ f ihf =>
    intro at' k hk hkf
    refine CT_of (by decide +kernel) (Nat.le_of_ble_eq_true rfl) ?_
    intro p e s m args below meth c X E hr hlk hnm
    have dk : ∀ {pc : Nat} {q : Instr × Nat}, lkd DX10_depthOf pc = some q → decode cX10_depthOf pc = .ok q := lkd_ok DX10_depthOf_ok
    have hat : at' < xs.length := by
      rcases Nat.lt_or_ge at' xs.length with q | q
      · exact q
      · rw [List.drop_eq_nil_of_le q] at hk; simp [endL] at hk
    obtain ⟨x, hx1⟩ : ∃ x, xs[at']? = some x := ⟨xs[at']'hat, by simp⟩
    have hx2 := hx x (List.mem_of_getElem? hx1)
    have hpF : pF x < 2 ^ 10 := by unfold pF; split <;> omega
    have hk' := hk
    rw [drop_cons hx1] at hk'
    simp only [endL, Option.map_eq_some_iff, Nat.zero_add] at hk'
    obtain ⟨k0, hk0, rfl⟩ := hk'
    have hle := endL_le hk
    rw [List.length_drop] at hle
    repeat refine fst1_ok X (dk rfl) rfl ?_
    refine ald_ok X (Or.inl ⟨rfl, rfl⟩) (dk rfl) ha (inA_nI (by omega) (IA_get hx1)) ?_
    refine callS_ok (av := [vI x]) (r := []) X E (c_parts h (by omega)) lkX10_parts mlX10_32 lsX10_parts ⟨by show 0 + 1 ≤ 2 + (f + 1); omega, by show 8 + (1 + 11) + 40 * 0 ≤ 40 * (2 + (f + 1)); omega⟩ ⟨Nat.le_of_ble_eq_true rfl, Nat.le_of_ble_eq_true rfl⟩ (Nat.le_of_ble_eq_true rfl) (dk rfl) ?_
    rintro v h' ⟨rfl, rfl⟩
    have loop : ∀ (nd pl j most : Nat), endL nd (xs.drop pl) = some j → pl + j = at' + (k0 + 1) → at' < pl → (∀ k, at' + 1 ≤ k → k < pl → k + tl xs k ≤ pl) → most = lvM xs (at' + 1) (pl - (at' + 1)) → nd < 2 ^ 10 → ∀ (l : List (Nat × Value)), lsel l [4, 3, 2, 0, 1] = [(4, vI nd), (3, vI pl), (2, vI most), (0, .ref a), (1, vI at')] → WR p la e (rmD (2 + (f + 1)) 0 0) s m args below meth c D cA B0 5 (fun v h'_1 => v = some (vI (lvM xs at' (k0 + 1))) ∧ h'_1 = h') 14 l [] h' 0 0 := by
      intro nd
      induction nd with
      | zero =>
        intro pl j most hj hpj hpl hcl hm hnd l hl
        have hj0 : j = 0 := by
          have z0 : ∀ r : List Nat, endL 0 r = some 0 := fun r => by cases r <;> rfl
          rw [z0] at hj
          exact (Option.some.inj hj).symm
        have em : most + 1 = lvM xs at' (k0 + 1) := by
          rw [lvM_head hk, hm, show pl - (at' + 1) = k0 by omega]
        refine WS.sel [4, 3, 2, 0, 1] hl ?_
        repeat refine fst1_ok X (dk rfl) rfl ?_
        refine br_ok X (dk rfl) rfl (show ((16 : Nat) : Int) + 25 = ((41 : Nat) : Int) from rfl) (fun c1 => ?_) (fun c1 => absurd (show nI 0 ≤ 0 by decide) c1)
        repeat refine fst1_ok X (dk rfl) rfl ?_
        refine reti_ok X hr hlk rfl (dk rfl) ⟨?_, rfl⟩ (Nat.le_refl _) (Nat.le_refl _)
        rw [nI_1', nI_add, em]
        rfl
      | succ nd ih =>
        intro pl j most hj hpj hpl hcl hm hnd l hl
        rw [show nd + 1 = 1 + nd by omega] at hj
        obtain ⟨k1, hk1, hk1j, hk2⟩ := endL_add _ 1 nd j hj
        rw [List.drop_drop] at hk2
        have hk1p := endL_pos (n := 0) hk1
        have hple := endL_le hk1
        rw [List.length_drop] at hple
        have hplt : pl < xs.length := by
          rcases Nat.lt_or_ge pl xs.length with q | q
          · exact q
          · omega
        refine WS.sel [4, 3, 2, 0, 1] hl ?_
        repeat refine fst1_ok X (dk rfl) rfl ?_
        refine br_ok X (dk rfl) rfl (show ((16 : Nat) : Int) + 25 = ((41 : Nat) : Int) from rfl) (fun c1 => absurd c1 (nI_nle (Nat.succ_pos nd) (by omega))) (fun c1 => ?_)
        repeat refine fst1_ok X (dk rfl) rfl ?_
        refine callS_ok (av := [.ref a, vI pl]) (r := [vI most]) X E (ihf pl k1 hk1 (by omega)) lkX10_depthOf mlX10_63 lsX10_depthOf ⟨by show 2 + f + 1 ≤ 2 + (f + 1); omega, by show 8 + (5 + 11) + 40 * (2 + f) ≤ 40 * (2 + (f + 1)); omega⟩ ⟨Nat.le_of_ble_eq_true rfl, Nat.le_of_ble_eq_true rfl⟩ (Nat.le_of_ble_eq_true rfl) (dk rfl) ?_
        rintro v h2 ⟨rfl, rfl⟩
        have m1 : most ≤ xs.length := by rw [hm]; exact mxF_le (fun q hq => by have := lv_le xs (at' + 1) (at' + 1 + q); omega)
        have d1l : lvM xs pl k1 ≤ xs.length := mxF_le (fun q hq => by have := lv_le xs pl (pl + q); omega)
        refine mmax_ok X (by omega) (by omega) mlX10_48 (dk rfl) (by show 1 ≤ 2 + (f + 1); omega) (by show 0 + 13 ≤ 40 * (2 + (f + 1)); omega) (Nat.le_of_ble_eq_true rfl) (Nat.le_of_ble_eq_true rfl) ?_
        repeat refine fst1_ok X (dk rfl) rfl ?_
        refine callS_ok (av := [.ref a, vI pl]) (r := []) X E (c_end h2 ha hx (by omega) hk1) lkX10_end mlX10_36 lsX10_end ⟨by show 1 + 1 ≤ 2 + (f + 1); omega, by show 8 + (4 + 11) + 40 * 1 ≤ 40 * (2 + (f + 1)); omega⟩ ⟨Nat.le_of_ble_eq_true rfl, Nat.le_of_ble_eq_true rfl⟩ (Nat.le_of_ble_eq_true rfl) (dk rfl) ?_
        rintro v h3 ⟨rfl, rfl⟩
        repeat refine fst1_ok X (dk rfl) rfl ?_
        refine br_ok X (dk rfl) rfl (show ((38 : Nat) : Int) + (-24) = ((14 : Nat) : Int) from rfl) (fun _ => ?_) (fun q => absurd trivial q)
        have f2 : Value.int (nI (nd + 1) + Int32.ofInt (-1)) = vI nd := congrArg Value.int (by rw [show Int32.ofInt (-1) = -1 by decide, ← Int32.sub_eq_add_neg]; exact nI_pred nd)
        refine WS.sel (l' := [(4, vI nd), (3, vI (pl + k1)), (2, vI (max most (lvM xs pl k1))), (0, .ref a), (1, vI at')]) [4, 3, 2, 0, 1] (by rw [← f2]; rfl) ?_
        exact ih (pl + k1) (j - k1) (max most (lvM xs pl k1)) hk2 (by omega) (by omega) (fun q q1 q2 => by
          rcases Nat.lt_or_ge q pl with z | z
          · have := hcl q q1 z
            omega
          · exact (nested hk1 z q2).2.2) (by
          have e1 : pl + k1 - (at' + 1) = (pl - (at' + 1)) + k1 := by omega
          have e2 : at' + 1 + (pl - (at' + 1)) = pl := by omega
          rw [e1, lvM_app (fun q q1 q2 => by rw [e2]; exact hcl q q1 (by omega)), e2, ← hm]) (by omega) _ rfl
    iterate 1 refine fst1_ok X (dk rfl) rfl ?_
    refine loop (pF x) (at' + 1) k0 0 hk0 (by omega) (by omega) (fun q q1 q2 => by omega) (by rw [Nat.sub_self]; rfl) hpF _ ?_
    rw [show vI (at' + 1) = Value.int (nI at' + Int32.ofInt 1) by rw [nI_1', nI_add]; rfl]
    rfl
end R17
end Uf17r4
section Uf18q5
/-! how many unlike terms stand in a row of terms (printed by wip/q/genQ5.py) -/
/-- terms behind each other -/
def GX (X : List Nat) : Prop := (∃ n, endL n X = some X.length) ∧ (∀ x ∈ X, okL x) ∧ X.length ≤ 256
theorem TW.gx {X : List Nat} (h : TW X) (hl : X.length ≤ 256) : GX X := ⟨⟨1, h.1⟩, h.2, hl⟩
theorem GX.tl {X : List Nat} (h : GX X) {p : Nat} (hp : p < X.length) : endL 1 (X.drop p) = some (tl X p) ∧ 0 < tl X p ∧ p + tl X p ≤ X.length := by
  obtain ⟨⟨n, hn⟩, -, -⟩ := h
  obtain ⟨k, hk⟩ := endL_at X n p hn hp
  have h1 := endL_le hk
  rw [List.length_drop] at h1
  rw [tl_of hk]
  exact ⟨hk, endL_pos (n := 0) hk, by omega⟩
theorem GX_like {X : List Nat} (hX : GX X) {i z : Nat} (hi : i < X.length) (hz : z < X.length) : ((X.drop i).take (tl X i) = (X.drop z).take (tl X i)) ↔ sub' X i = sub' X z := by
  obtain ⟨h1, h2, h3⟩ := hX.tl hi
  have hl : (sub' X i).length = tl X i := by
    unfold sub'
    rw [List.length_take, List.length_drop]
    omega
  have tw : TW (sub' X i) := ⟨by rw [hl]; exact endL_take _ _ _ h1, fun x hx => hX.2.1 x (List.mem_of_mem_drop (List.mem_of_mem_take hx))⟩
  have h := TW_take (t := sub' X i) tw (hX.tl hz).1
  rw [List.drop_zero, List.take_length, hl] at h
  exact h
/-- whether a term stands at a place for the first time -/
def nwB (X : List Nat) (i : Nat) : Bool := decide (flX X i = i)
def shN (X : List Nat) : Nat := ctF (nwB X) X.length
theorem nwB_t {X : List Nat} {i : Nat} (hi : i < X.length) (h : ∀ y, y < i → sub' X y ≠ sub' X i) : nwB X i = true := by
  obtain ⟨h1, h2, -⟩ := flX_ok hi
  refine decide_eq_true ?_
  rcases Nat.lt_or_ge (flX X i) i with z | z
  · exact absurd h2 (h _ z)
  · omega
theorem nwB_f {X : List Nat} {i y : Nat} (hi : i < X.length) (hy : y < i) (h : sub' X y = sub' X i) : nwB X i = false := decide_eq_false (fun z => by
  obtain ⟨-, -, h3⟩ := flX_ok hi
  exact h3 y (by rw [z]; exact hy) h)
def aShared (x1 : Int32) (st : ST) : RS := if okI 6 x1 then ((0, nI (shN (st.1.getD (xI x1) []))), st) else ((1, 0), st)
section Q18
variable {la : Launch} {D : va_G} {cA : Nat → ClassId} {B0 pa : Nat} {B Q P : Nat → Nat} {ox : Nat} {kn d r : Int32} {F : Nat → TC}
set_option maxHeartbeats 16000000 in
theorem s5_firstLikeG (h : AH) (S : TS B Q h F) {i : Nat} (hi : i < 52) {X1 : List Nat} (hX : GX X1) (hN : TN (F i) X1) {z : Nat} (hz : z < X1.length) : CT la D cA B0 pa yX5_firstLike cX5_firstLike 3 (some .int) (rmD 2 0 0) [.ref (B i), vI z] h (RP (vI (flX X1 z)) h) := by
  refine CT_of (by decide +kernel) (Nat.le_of_ble_eq_true rfl) ?_
  intro p e s m args below meth c X E hr hlk hnm
  have dk : ∀ {pc : Nat} {q : Instr × Nat}, lkd DX5_firstLike pc = some q → decode cX5_firstLike pc = .ok q := lkd_ok DX5_firstLike_ok
  have hX256 := hX.2.2
  have loop : ∀ (u k : Nat), u + k = z → flF X1 z u k = flX X1 z → ∀ l : List (Nat × Value), lsel l [2, 1, 0] = [(2, vI k), (1, vI z), (0, .ref (B i))] → WR p la e (rmD 2 0 0) s m args below meth c D cA B0 3 (RP (vI (flX X1 z)) h) 2 l [] h 0 0 := by
    intro u
    induction u with
    | zero =>
      intro k hk he l hl
      have hk2 : k = z := by omega
      subst hk2
      have ez : flX X1 k = k := he.symm
      refine WS.sel [2, 1, 0] hl ?_
      iterate 2 refine fst1_ok X (dk rfl) rfl ?_
      refine br_ok X (dk rfl) rfl (show ((4 : Nat) : Int) + 21 = ((25 : Nat) : Int) from rfl) (fun _ => ?_) (fun q => absurd (Int32.le_refl _) q)
      refine fst1_ok X (dk rfl) rfl ?_
      rw [ez]
      exact reti_ok X hr hlk rfl (dk rfl) (⟨rfl, rfl⟩) (Nat.le_of_ble_eq_true rfl) (Nat.le_of_ble_eq_true rfl)
    | succ u ih =>
      intro k hk he l hl
      have f3 : Value.int (nI k + Int32.ofInt 1) = vI (k + 1) := congrArg Value.int (by rw [nI_1', nI_add])
      have hkl : k < X1.length := by omega
      rw [flF] at he
      refine WS.sel [2, 1, 0] hl ?_
      iterate 2 refine fst1_ok X (dk rfl) rfl ?_
      refine br_ok X (dk rfl) rfl (show ((4 : Nat) : Int) + 21 = ((25 : Nat) : Int) from rfl) (fun q => absurd q (nI_ge (by omega) (by omega))) (fun _ => ?_)
      iterate 4 refine fst1_ok X (dk rfl) rfl ?_
      refine callVR_ok (ci := 7) (T := TX5) (N := 3) (av := [vI k, .ref (B i), vI z]) (r := []) X E (s5_isLikeAt h S hi hN hi hN (p0 := k) (p2 := z) (by omega) (hX.tl hkl).1) lkX5_isLikeAt mlX5_68 lmX5_isLikeAt lpX5_isLikeAt ⟨Nat.le_of_ble_eq_true rfl, Nat.le_of_ble_eq_true rfl⟩ ⟨Nat.le_of_ble_eq_true rfl, Nat.le_of_ble_eq_true rfl⟩ rfl ⟨_, (S i hi).2.1⟩ (Nat.le_of_ble_eq_true rfl) (dk rfl) ?_
      rintro _ rfl
      by_cases hs : sub' X1 k = sub' X1 z
      · rw [if_pos hs] at he
        rw [decide_eq_true ((GX_like hX hkl hz).mpr hs)]
        refine br_ok X (dk rfl) rfl (show ((14 : Nat) : Int) + 5 = ((19 : Nat) : Int) from rfl) (fun q => absurd q bI_t) (fun _ => ?_)
        refine fst1_ok X (dk rfl) rfl ?_
        rw [← he]
        exact reti_ok X hr hlk rfl (dk rfl) (⟨rfl, rfl⟩) (Nat.le_of_ble_eq_true rfl) (Nat.le_of_ble_eq_true rfl)
      · rw [if_neg hs] at he
        rw [decide_eq_false (fun w => hs ((GX_like hX hkl hz).mp w))]
        refine br_ok X (dk rfl) rfl (show ((14 : Nat) : Int) + 5 = ((19 : Nat) : Int) from rfl) (fun _ => ?_) (fun q => absurd bI_f' q)
        refine fst1_ok X (dk rfl) rfl ?_
        refine br_ok X (dk rfl) rfl (show ((22 : Nat) : Int) + (-20) = ((2 : Nat) : Int) from rfl) (fun _ => ?_) (fun q => absurd trivial q)
        refine WS.sel (l' := [(2, vI (k + 1)), (1, vI z), (0, .ref (B i))]) [2, 1, 0] (by rw [← f3]; rfl) ?_
        exact ih (k + 1) (by omega) he _ rfl
  iterate 2 refine fst1_ok X (dk rfl) rfl ?_
  exact loop z 0 (Nat.add_zero _) (if_pos hz).symm _ rfl
set_option maxHeartbeats 16000000 in
theorem s5_unlikePlaces (h : AH) (S : TS B Q h F) {i : Nat} (hi : i < 52) {X1 : List Nat} (hX : GX X1) (hN : TN (F i) X1) : CT la D cA B0 pa yX5_unlikePlaces cX5_unlikePlaces 3 (some .int) (rmD 3 0 0) [.ref (B i)] h (RP (vI (shN X1)) h) := by
  refine CT_of (by decide +kernel) (Nat.le_of_ble_eq_true rfl) ?_
  intro p e s m args below meth c X E hr hlk hnm
  have dk : ∀ {pc : Nat} {q : Instr × Nat}, lkd DX5_unlikePlaces pc = some q → decode cX5_unlikePlaces pc = .ok q := lkd_ok DX5_unlikePlaces_ok
  have hX256 := hX.2.2
  have loop : ∀ (d k : Nat), d = X1.length - k → k ≤ X1.length → ∀ l : List (Nat × Value), lsel l [2, 1, 0] = [(2, vI k), (1, vI (ctF (nwB X1) k)), (0, .ref (B i))] → WR p la e (rmD 3 0 0) s m args below meth c D cA B0 3 (RP (vI (shN X1)) h) 4 l [] h 0 0 := by
    intro d
    induction d with
    | zero =>
      intro k hd hk l hl
      have hk2 : k = X1.length := by omega
      subst hk2
      refine WS.sel [2, 1, 0] hl ?_
      iterate 2 refine fst1_ok X (dk rfl) rfl ?_
      refine getf_ok X flX5_21 (dk rfl) (S i hi).2.1 rfl ?_
      rw [hN.len]
      refine br_ok X (dk rfl) rfl (show ((9 : Nat) : Int) + 21 = ((30 : Nat) : Int) from rfl) (fun _ => ?_) (fun q => absurd (Int32.le_refl _) q)
      refine fst1_ok X (dk rfl) rfl ?_
      exact reti_ok X hr hlk rfl (dk rfl) (⟨rfl, rfl⟩) (Nat.le_of_ble_eq_true rfl) (Nat.le_of_ble_eq_true rfl)
    | succ d ih =>
      intro k hd hk l hl
      have f3 : Value.int (nI k + Int32.ofInt 1) = vI (k + 1) := congrArg Value.int (by rw [nI_1', nI_add])
      have hkl : k < X1.length := by omega
      have fl := (flX_ok hkl).1
      refine WS.sel [2, 1, 0] hl ?_
      iterate 2 refine fst1_ok X (dk rfl) rfl ?_
      refine getf_ok X flX5_21 (dk rfl) (S i hi).2.1 rfl ?_
      rw [hN.len]
      refine br_ok X (dk rfl) rfl (show ((9 : Nat) : Int) + 21 = ((30 : Nat) : Int) from rfl) (fun q => absurd q (nI_ge (by omega) (by omega))) (fun _ => ?_)
      iterate 2 refine fst1_ok X (dk rfl) rfl ?_
      refine callVR_ok (ci := 7) (T := TX5) (N := 3) (av := [vI k]) (r := []) X E (s5_firstLikeG h S hi hX hN hkl) lkX5_firstLike mlX5_72 lmX5_firstLike lpX5_firstLike ⟨Nat.le_of_ble_eq_true rfl, Nat.le_of_ble_eq_true rfl⟩ ⟨Nat.le_of_ble_eq_true rfl, Nat.le_of_ble_eq_true rfl⟩ rfl ⟨_, (S i hi).2.1⟩ (Nat.le_of_ble_eq_true rfl) (dk rfl) ?_
      rintro _ rfl
      refine fst1_ok X (dk rfl) rfl ?_
      have ec : ctF (nwB X1) (k + 1) = ctF (nwB X1) k + (if nwB X1 k = true then 1 else 0) := rfl
      by_cases e1 : flX X1 k = k
      · rw [if_pos (show nwB X1 k = true from decide_eq_true e1)] at ec
        have c4 : vI (ctF (nwB X1) (k + 1)) = Value.int (nI (ctF (nwB X1) k) + Int32.ofInt 1) := by
          rw [ec, nI_1', nI_add]
          rfl
        refine br_ok X (dk rfl) rfl (show ((18 : Nat) : Int) + 6 = ((24 : Nat) : Int) from rfl) (fun q => absurd (by rw [e1]) q) (fun _ => ?_)
        refine fst1_ok X (dk rfl) rfl ?_
        refine fst1_ok X (dk rfl) rfl ?_
        refine br_ok X (dk rfl) rfl (show ((27 : Nat) : Int) + (-23) = ((4 : Nat) : Int) from rfl) (fun _ => ?_) (fun q => absurd trivial q)
        refine WS.sel (l' := [(2, vI (k + 1)), (1, vI (ctF (nwB X1) (k + 1))), (0, .ref (B i))]) [2, 1, 0] (by rw [← f3, c4]; rfl) ?_
        exact ih (k + 1) (by omega) (by omega) _ rfl
      · rw [if_neg (show ¬ nwB X1 k = true from fun y => e1 (of_decide_eq_true y)), Nat.add_zero] at ec
        refine br_ok X (dk rfl) rfl (show ((18 : Nat) : Int) + 6 = ((24 : Nat) : Int) from rfl) (fun _ => ?_) (fun q => absurd (fun y => e1 (nI_inj (by omega) (by omega) y)) q)
        refine fst1_ok X (dk rfl) rfl ?_
        refine br_ok X (dk rfl) rfl (show ((27 : Nat) : Int) + (-23) = ((4 : Nat) : Int) from rfl) (fun _ => ?_) (fun q => absurd trivial q)
        refine WS.sel (l' := [(2, vI (k + 1)), (1, vI (ctF (nwB X1) (k + 1))), (0, .ref (B i))]) [2, 1, 0] (by rw [← f3, ec]; rfl) ?_
        exact ih (k + 1) (by omega) (by omega) _ rfl
  iterate 4 refine fst1_ok X (dk rfl) rfl ?_
  exact loop _ 0 rfl (Nat.zero_le _) _ rfl
set_option maxHeartbeats 8000000 in
theorem s6_shared (h : AH) (hl : la.stackTraces = false) (Y : LYO B Q) {st : ST} (C0 : StC B Q P ox kn h st) (x1 : Int32) : CTX la D cA B0 pa yX6_shared cX6_shared 2 (some .int) (rmD 7 1 6) [.ref ox, .int x1] h (AP B Q P ox kn (aShared x1 st) h) (AX (aShared x1 st) st h) := by
  refine CTX_of (by decide +kernel) (Nat.le_of_ble_eq_true rfl) ?_
  intro p e s m args below meth c X E hr hlk hnm ht
  have dk : ∀ {pc : Nat} {q : Instr × Nat}, lkd DX6_shared pc = some q → decode cX6_shared pc = .ok q := lkd_ok DX6_shared_ok
  obtain ⟨F, C, H, O⟩ := id C0
  iterate 2 refine fst1_ok X (dk rfl) rfl ?_
  refine callVX_ok (ci := 8) (T := TX6) (N := 14) (av := [.int x1]) (r := []) X E ht hlk (s6_termOf h hl C x1) (fun E1 h1 z => AX.one (by unfold aShared; rw [if_neg (by rw [okI_f z.2.1]; decide)]) ⟨z.1, z.2.2⟩) lkX6_termOf mlX6_69 lmX6_termOf lpX6_termOf ⟨Nat.le_of_ble_eq_true rfl, Nat.le_of_ble_eq_true rfl⟩ ⟨Nat.le_of_ble_eq_true rfl, Nat.le_of_ble_eq_true rfl⟩ rfl C.2.1 (Nat.le_of_ble_eq_true rfl) (dk rfl) ?_
  rintro _ h1 ⟨⟨j, hj, rfl, rfl⟩, eh⟩
  obtain rfl := eh.symm
  obtain ⟨nj, sj, ej, tj, wj, lj⟩ := H.slot O hj
  refine callVR_ok (ci := 7) (T := TX5) (N := 3) (av := []) (r := []) X E (s5_unlikePlaces _ C.1 (i := j) (by omega) (wj.gx (by omega)) tj) lkX5_unlikePlaces mlX6_204 lmX5_unlikePlaces lpX5_unlikePlaces ⟨Nat.le_of_ble_eq_true rfl, Nat.le_of_ble_eq_true rfl⟩ ⟨Nat.le_of_ble_eq_true rfl, Nat.le_of_ble_eq_true rfl⟩ rfl ⟨_, (C.1 j (by omega)).2.1⟩ (Nat.le_of_ble_eq_true rfl) (dk rfl) ?_
  rintro _ rfl
  have e : aShared (nI j) st = ((0, nI (shN nj)), st) := by
    unfold aShared
    rw [if_pos (okI_t hj (by decide)), xI_n (by omega), getD_of sj]
  rw [e]
  refine WRX.ret ?_
  exact reti_ok X hr hlk rfl (dk rfl) (⟨rfl, rfl, ⟨F, C, H, O⟩, FrC.rf _⟩) (Nat.le_of_ble_eq_true rfl) (Nat.le_of_ble_eq_true rfl)
end Q18
end Uf18q5
section Uf19r5
/-! the reference's shared size, exactly (printed by wip/q/genR5.py) -/
/-- where a row begins, when rows are put behind each other -/
def offN : List (List Nat) → Nat → Nat
  | _, 0 => 0
  | [], _ + 1 => 0
  | r :: rs, t + 1 => r.length + offN rs t
theorem offN_succ : ∀ {rows : List (List Nat)} {t : Nat} {r : List Nat}, rows[t]? = some r → offN rows (t + 1) = offN rows t + r.length
  | [], t, r, h => by simp at h
  | x :: rs, 0, r, h => by
    simp only [List.getElem?_cons_zero, Option.some.injEq] at h
    subst h
    show x.length + offN rs 0 = 0 + x.length
    have : offN rs 0 = 0 := by cases rs <;> rfl
    omega
  | x :: rs, t + 1, r, h => by
    rw [List.getElem?_cons_succ] at h
    show x.length + offN rs (t + 1) = x.length + offN rs t + r.length
    rw [offN_succ h]
    omega
theorem offN_zero (rows : List (List Nat)) : offN rows 0 = 0 := by cases rows <;> rfl
theorem offN_all : ∀ rows : List (List Nat), offN rows rows.length = rows.flatten.length
  | [] => rfl
  | r :: rs => by
    show r.length + offN rs rs.length = (r ++ rs.flatten).length
    rw [offN_all rs, List.length_append]
theorem offN_le {rows : List (List Nat)} {t : Nat} {r : List Nat} (h : rows[t]? = some r) : offN rows t + r.length ≤ rows.flatten.length := by
  have key : ∀ (rows : List (List Nat)) (t : Nat), t ≤ rows.length → offN rows t ≤ rows.flatten.length := by
    intro rows
    induction rows with
    | nil => intro t ht; rw [show t = 0 by simpa using ht]; exact Nat.le_refl _
    | cons x rs ih =>
      intro t ht
      cases t with
      | zero => exact Nat.zero_le _
      | succ t =>
        have := ih t (by rw [List.length_cons] at ht; omega)
        show x.length + offN rs t ≤ (x ++ rs.flatten).length
        rw [List.length_append]
        omega
  have ht : t < rows.length := (List.getElem?_eq_some_iff.mp h).1
  have := key rows (t + 1) ht
  rw [offN_succ h] at this
  exact this
/-- a term of a row, when rows are put behind each other -/
theorem rows_sub : ∀ {rows : List (List Nat)} {t pl : Nat} {r : List Nat}, rows[t]? = some r → TW r → pl < r.length → sub' rows.flatten (offN rows t + pl) = sub' r pl
  | [], t, pl, r, h, _, _ => by simp at h
  | x :: rs, 0, pl, r, h, tw, hp => by
    simp only [List.getElem?_cons_zero, Option.some.injEq] at h
    subst h
    obtain ⟨k1, k2, k3, k4⟩ := subTW tw hp
    have e : (x ++ rs.flatten).drop pl = x.drop pl ++ rs.flatten := List.drop_append_of_le_length (by omega)
    have e2 := endL_app _ rs.flatten _ _ k1
    show ((x ++ rs.flatten).drop (0 + pl)).take (tl (x ++ rs.flatten) (0 + pl)) = (x.drop pl).take (tl x pl)
    rw [Nat.zero_add]
    have e3 : tl (x ++ rs.flatten) pl = tl x pl := by
      unfold tl
      rw [e, e2, k1]
    rw [e3, e, List.take_append_of_le_length (by rw [List.length_drop]; omega)]
  | x :: rs, t + 1, pl, r, h, tw, hp => by
    rw [List.getElem?_cons_succ] at h
    have ih := rows_sub h tw hp
    have e : ∀ q, (x ++ rs.flatten).drop (x.length + q) = rs.flatten.drop q := fun q => by rw [List.drop_append]; simp
    show sub' (x ++ rs.flatten) (x.length + offN rs t + pl) = _
    rw [← ih]
    unfold sub' tl
    rw [Nat.add_assoc, e]
theorem offN_mono : ∀ {rows : List (List Nat)} {a b : Nat}, a ≤ b → b ≤ rows.length → offN rows a ≤ offN rows b
  | rows, 0, b, _, _ => by rw [offN_zero]; exact Nat.zero_le _
  | rows, a + 1, 0, h, _ => by omega
  | [], a + 1, b + 1, _, h => by simp at h
  | r :: rs, a + 1, b + 1, h, hb => by
    have := offN_mono (rows := rs) (a := a) (b := b) (by omega) (by rw [List.length_cons] at hb; omega)
    show r.length + offN rs a ≤ r.length + offN rs b
    omega
theorem RO.at {rows : List (List Nat)} (h : RO rows) {t : Nat} {r : List Nat} (ht : rows[t]? = some r) : TW r ∧ r.length ≤ 16 := h.2 r (List.mem_of_getElem? ht)
section R19
variable {la : Launch} {D : va_G} {cA : Nat → ClassId} {B0 pa : Nat} {o S A : Nat} {sl : List (List Nat)} {an : List (List (List Nat))} {da dr kn th : Int32}
set_option maxHeartbeats 8000000 in
theorem RF.x_isMet (h : AH) {A t pl : Nat} {rows : List (List Nat)} {rt : List Nat} (hA : Ans h A rows) (ho : RO rows) (ht : rows[t]? = some rt) (hp : pl < rt.length) : CT la D cA B0 pa yX10_isMet cX10_isMet 5 (some .boolean) (rmD 3 0 0) [.ref A, vI t, vI pl] h (fun v h' => v = some (.int (if (nwB rows.flatten (offN rows t + pl)) = true then 0 else 1)) ∧ h' = h) := by
  refine CT_of (by decide +kernel) (Nat.le_of_ble_eq_true rfl) ?_
  intro p e s m args below meth c X E hr hlk hnm
  have dk : ∀ {pc : Nat} {q : Instr × Nat}, lkd DX10_isMet pc = some q → decode cX10_isMet pc = .ok q := lkd_ok DX10_isMet_ok
  obtain ⟨as, has, hAs, hra⟩ := hA.row
  have htl : t < rows.length := (List.getElem?_eq_some_iff.mp ht).1
  have hn := ho.1
  obtain ⟨at', rt', ht1, ht2, ht3⟩ := hra t htl
  cases ht.symm.trans ht2
  have hrt := ho.2 rt (List.mem_of_getElem? ht)
  obtain ⟨k2, hk2, -, -, -⟩ := hrt.1.at hp
  have gl := offN_le ht
  have egt := rows_sub ht hrt.1 hp
  have outer : ∀ (d j : Nat), d = t + 1 - j → j ≤ t + 1 → (∀ y, y < (if j ≤ t then offN rows j else offN rows t + pl) → sub' rows.flatten y ≠ sub' rows.flatten (offN rows t + pl)) → ∀ (l : List (Nat × Value)), lsel l [3, 0, 1, 2] = [(3, vI j), (0, .ref A), (1, vI t), (2, vI pl)] → WR p la e (rmD 3 0 0) s m args below meth c D cA B0 5 (fun v h' => v = some (.int (if (nwB rows.flatten (offN rows t + pl)) = true then 0 else 1)) ∧ h' = h) 2 l [] h 0 0 := by
    intro d
    induction d with
    | zero =>
      intro j hd hj hnw l hl
      refine WS.sel [3, 0, 1, 2] hl ?_
      repeat refine fst1_ok X (dk rfl) rfl ?_
      refine br_ok X (dk rfl) rfl (show ((4 : Nat) : Int) + 53 = ((57 : Nat) : Int) from rfl) (fun c1 => ?_) (fun c1 => absurd (nI_lt (by omega) (by omega)) c1)
      repeat refine fst1_ok X (dk rfl) rfl ?_
      have en := nwB_t (X := rows.flatten) (i := offN rows t + pl) (by omega) (fun y hy => hnw y (by rw [if_neg (by omega)]; exact hy))
      exact reti_ok X hr hlk rfl (dk rfl) ⟨by rw [if_pos en]; rfl, rfl⟩ (Nat.le_refl _) (Nat.le_refl _)
    | succ d ih =>
      intro j hd hj hnw l hl
      obtain ⟨a, x, ha1, ha2, ha3⟩ := hra j (by omega)
      have hx := ho.2 x (List.mem_of_getElem? ha2)
      have f3 : Value.int (nI j + Int32.ofInt 1) = vI (j + 1) := congrArg Value.int (by rw [nI_1', nI_add])
      -- the bound of the inner loop
      have inner : ∀ (N : Nat), N ≤ x.length → (j = t → N = pl) → (j ≠ t → N = x.length) → ∀ (d2 i : Nat), d2 = N - i → i ≤ N → (∀ y, y < offN rows j + i → sub' rows.flatten y ≠ sub' rows.flatten (offN rows t + pl)) → ∀ (l : List (Nat × Value)), lsel l [4, 3, 0, 1, 2] = [(4, vI i), (3, vI j), (0, .ref A), (1, vI t), (2, vI pl)] → WR p la e (rmD 3 0 0) s m args below meth c D cA B0 5 (fun v h' => v = some (.int (if (nwB rows.flatten (offN rows t + pl)) = true then 0 else 1)) ∧ h' = h) 10 l [] h 0 0 := by
        intro N hN hN1 hN2 d2
        induction d2 with
        | zero =>
          intro i hd2 hi hnw2 l hl
          have hi2 : i = N := by omega
          subst hi2
          have fin' : ∀ (l : List (Nat × Value)), lsel l [3, 0, 1, 2] = [(3, vI j), (0, .ref A), (1, vI t), (2, vI pl)] → WR p la e (rmD 3 0 0) s m args below meth c D cA B0 5 (fun v h' => v = some (.int (if (nwB rows.flatten (offN rows t + pl)) = true then 0 else 1)) ∧ h' = h) 25 l [vI i, vI i] h 0 0 := by
            intro l hl
            refine WS.sel [3, 0, 1, 2] hl ?_
            refine br_ok X (dk rfl) rfl (show ((25 : Nat) : Int) + 26 = ((51 : Nat) : Int) from rfl) (fun c1 => ?_) (fun c1 => absurd (Int32.le_refl _) c1)
            repeat refine fst1_ok X (dk rfl) rfl ?_
            refine br_ok X (dk rfl) rfl (show ((54 : Nat) : Int) + (-52) = ((2 : Nat) : Int) from rfl) (fun _ => ?_) (fun q => absurd trivial q)
            refine WS.sel (l' := [(3, vI (j + 1)), (0, .ref A), (1, vI t), (2, vI pl)]) [3, 0, 1, 2] (by rw [← f3]; rfl) ?_
            exact ih (j + 1) (by omega) (by omega) (fun y hy => hnw2 y (by
              by_cases q : j = t
              · rw [if_neg (by omega)] at hy
                rw [hN1 q, q]
                exact hy
              · rw [if_pos (by omega), offN_succ ha2] at hy
                rw [hN2 q]
                exact hy)) _ rfl
          refine WS.sel [4, 3, 0, 1, 2] hl ?_
          repeat refine fst1_ok X (dk rfl) rfl ?_
          refine br_ok X (dk rfl) rfl (show ((14 : Nat) : Int) + 7 = ((21 : Nat) : Int) from rfl) (fun c2 => ?_) (fun c2 => ?_)
          · have hjt : j ≠ t := fun z => c2 (by rw [z])
            repeat refine fst1_ok X (dk rfl) rfl ?_
            refine ldr_ok X (dk rfl) hAs ha1 (by omega) ?_
            refine alen_ok X (by decide) (dk rfl) ha3 ?_
            rw [show (x.map vI).length = i by rw [List.length_map, hN2 hjt]]
            exact fin' _ rfl
          · have hjt : j = t := (nI_eq (by omega) (by omega)).mp (Decidable.not_not.mp c2)
            refine fst1_ok X (dk rfl) rfl ?_
            refine br_ok X (dk rfl) rfl (show ((18 : Nat) : Int) + 7 = ((25 : Nat) : Int) from rfl) (fun _ => ?_) (fun q => absurd trivial q)
            rw [show nI pl = nI i by rw [hN1 hjt]]
            exact fin' _ (by rw [hN1 hjt]; rfl)
        | succ d2 ih2 =>
          intro i hd2 hi hnw2 l hl
          obtain ⟨k1, hk1, -, -, -⟩ := hx.1.at (j := i) (by omega)
          have eji := rows_sub ha2 hx.1 (show i < x.length by omega)
          have es : ((x.drop i).take k1 = (rt.drop pl).take k2) ↔ sub' rows.flatten (offN rows j + i) = sub' rows.flatten (offN rows t + pl) := by
            rw [eji, egt]
            unfold sub'
            rw [tl_of hk1, tl_of hk2]
          have go' : ∀ (l : List (Nat × Value)), lsel l [4, 3, 0, 1, 2] = [(4, vI i), (3, vI j), (0, .ref A), (1, vI t), (2, vI pl)] → WR p la e (rmD 3 0 0) s m args below meth c D cA B0 5 (fun v h' => v = some (.int (if (nwB rows.flatten (offN rows t + pl)) = true then 0 else 1)) ∧ h' = h) 25 l [vI N, vI i] h 0 0 := by
            intro l hl
            refine WS.sel [4, 3, 0, 1, 2] hl ?_
            refine br_ok X (dk rfl) rfl (show ((25 : Nat) : Int) + 26 = ((51 : Nat) : Int) from rfl) (fun c1 => absurd c1 (nI_ge (by omega) (by omega))) (fun c1 => ?_)
            repeat refine fst1_ok X (dk rfl) rfl ?_
            refine ldr_ok X (dk rfl) hAs ha1 (by omega) ?_
            repeat refine fst1_ok X (dk rfl) rfl ?_
            refine ldr_ok X (dk rfl) hAs ht1 (by omega) ?_
            repeat refine fst1_ok X (dk rfl) rfl ?_
            refine callS_ok (av := [.ref a, vI i, .ref at', vI pl]) (r := []) X E (c_isAt h ha3 ht3 (by omega) (by omega) hx.1.lt hrt.1.lt hk1 hk2) lkX10_isAt mlX10_70 lsX10_isAt ⟨Nat.le_of_ble_eq_true rfl, Nat.le_of_ble_eq_true rfl⟩ ⟨Nat.le_of_ble_eq_true rfl, Nat.le_of_ble_eq_true rfl⟩ (Nat.le_of_ble_eq_true rfl) (dk rfl) ?_
            rintro v h' ⟨rfl, rfl⟩
            by_cases ce : (x.drop i).take k1 = (rt.drop pl).take k2
            · rw [if_pos ce]
              have hlt : offN rows j + i < offN rows t + pl := by
                by_cases q : j = t
                · have := hN1 q
                  subst q
                  omega
                · have := offN_mono (rows := rows) (show j + 1 ≤ t by omega) (by omega)
                  rw [offN_succ ha2] at this
                  omega
              have en := nwB_f (X := rows.flatten) (by omega) hlt (es.mp ce)
              refine br_ok X (dk rfl) rfl (show ((40 : Nat) : Int) + 5 = ((45 : Nat) : Int) from rfl) (fun c2 => absurd c2 (by decide)) (fun c2 => ?_)
              repeat refine fst1_ok X (dk rfl) rfl ?_
              exact reti_ok X hr hlk rfl (dk rfl) ⟨by rw [if_neg (by rw [en]; decide)]; rfl, rfl⟩ (Nat.le_refl _) (Nat.le_refl _)
            · rw [if_neg ce]
              refine br_ok X (dk rfl) rfl (show ((40 : Nat) : Int) + 5 = ((45 : Nat) : Int) from rfl) (fun c2 => ?_) (fun c2 => absurd rfl c2)
              repeat refine fst1_ok X (dk rfl) rfl ?_
              refine br_ok X (dk rfl) rfl (show ((48 : Nat) : Int) + (-38) = ((10 : Nat) : Int) from rfl) (fun _ => ?_) (fun q => absurd trivial q)
              have f2 : Value.int (nI i + Int32.ofInt 1) = vI (i + 1) := congrArg Value.int (by rw [nI_1', nI_add])
              refine WS.sel (l' := [(4, vI (i + 1)), (3, vI j), (0, .ref A), (1, vI t), (2, vI pl)]) [4, 3, 0, 1, 2] (by rw [← f2]; rfl) ?_
              exact ih2 (i + 1) (by omega) (by omega) (fun y hy => by
                rcases Nat.lt_or_ge y (offN rows j + i) with z | z
                · exact hnw2 y z
                · rw [show y = offN rows j + i by omega]
                  exact fun w => ce (es.mpr w)) _ rfl
          refine WS.sel [4, 3, 0, 1, 2] hl ?_
          repeat refine fst1_ok X (dk rfl) rfl ?_
          refine br_ok X (dk rfl) rfl (show ((14 : Nat) : Int) + 7 = ((21 : Nat) : Int) from rfl) (fun c2 => ?_) (fun c2 => ?_)
          · have hjt : j ≠ t := fun z => c2 (by rw [z])
            repeat refine fst1_ok X (dk rfl) rfl ?_
            refine ldr_ok X (dk rfl) hAs ha1 (by omega) ?_
            refine alen_ok X (by decide) (dk rfl) ha3 ?_
            rw [show (x.map vI).length = N by rw [List.length_map, hN2 hjt]]
            exact go' _ rfl
          · have hjt : j = t := (nI_eq (by omega) (by omega)).mp (Decidable.not_not.mp c2)
            refine fst1_ok X (dk rfl) rfl ?_
            refine br_ok X (dk rfl) rfl (show ((18 : Nat) : Int) + 7 = ((25 : Nat) : Int) from rfl) (fun _ => ?_) (fun q => absurd trivial q)
            rw [show nI pl = nI N by rw [hN1 hjt]]
            exact go' _ rfl
      refine WS.sel [3, 0, 1, 2] hl ?_
      repeat refine fst1_ok X (dk rfl) rfl ?_
      refine br_ok X (dk rfl) rfl (show ((4 : Nat) : Int) + 53 = ((57 : Nat) : Int) from rfl) (fun c1 => absurd c1 (nI_nlt (by omega) (by omega))) (fun c1 => ?_)
      iterate 2 refine fst1_ok X (dk rfl) rfl ?_
      by_cases hjt : j = t
      · have hxr : x = rt := by rw [hjt, ht] at ha2; exact (Option.some.inj ha2).symm
        exact inner pl (by rw [hxr]; omega) (fun _ => rfl) (fun z => absurd hjt z) _ 0 rfl (Nat.zero_le _) (fun y hy => hnw y (by rw [if_pos (by omega)]; exact hy)) _ rfl
      · exact inner x.length (Nat.le_refl _) (fun z => absurd z hjt) (fun _ => rfl) _ 0 rfl (Nat.zero_le _) (fun y hy => hnw y (by rw [if_pos (by omega)]; exact hy)) _ rfl
  iterate 2 refine fst1_ok X (dk rfl) rfl ?_
  exact outer _ 0 rfl (Nat.zero_le _) (fun y hy => absurd hy (by rw [if_pos (Nat.zero_le _), offN_zero]; exact Nat.not_lt_zero _)) _ rfl
set_option maxHeartbeats 8000000 in
theorem RF.x_sharedOf (h : AH) {A : Nat} {rows : List (List Nat)} (hA : Ans h A rows) (ho : RO rows) : CT la D cA B0 pa yX10_sharedOf cX10_sharedOf 4 (some .int) (rmD 4 0 0) [.ref A] h (fun v h' => v = some (vI (shN rows.flatten)) ∧ h' = h) := by
  refine CT_of (by decide +kernel) (Nat.le_of_ble_eq_true rfl) ?_
  intro p e s m args below meth c X E hr hlk hnm
  have dk : ∀ {pc : Nat} {q : Instr × Nat}, lkd DX10_sharedOf pc = some q → decode cX10_sharedOf pc = .ok q := lkd_ok DX10_sharedOf_ok
  obtain ⟨as, has, hAs, hra⟩ := hA.row
  have hn := ho.1
  have outer : ∀ (d j : Nat), d = rows.length - j → j ≤ rows.length → ∀ (z : Int32) (l : List (Nat × Value)), z = nI (ctF (nwB rows.flatten) (offN rows j)) → lsel l [2, 1, 0] = [(2, vI j), (1, .int z), (0, .ref A)] → WR p la e (rmD 4 0 0) s m args below meth c D cA B0 4 (fun v h' => v = some (vI (shN rows.flatten)) ∧ h' = h) 4 l [] h 0 0 := by
    intro d
    induction d with
    | zero =>
      intro j hd hj z l ez hl
      have hj2 : j = rows.length := by omega
      subst hj2
      refine WS.sel [2, 1, 0] hl ?_
      repeat refine fst1_ok X (dk rfl) rfl ?_
      refine alen_ok X (by decide) (dk rfl) hAs ?_
      rw [show (as.map Value.ref).length = rows.length by rw [List.length_map, has]]
      refine br_ok X (dk rfl) rfl (show ((7 : Nat) : Int) + 42 = ((49 : Nat) : Int) from rfl) (fun c1 => ?_) (fun c1 => absurd (Int32.le_refl _) c1)
      repeat refine fst1_ok X (dk rfl) rfl ?_
      exact reti_ok X hr hlk rfl (dk rfl) ⟨by rw [ez, offN_all]; rfl, rfl⟩ (Nat.le_refl _) (Nat.le_refl _)
    | succ d ih =>
      intro j hd hj z l ez hl
      obtain ⟨a, x, ha1, ha2, ha3⟩ := hra j (by omega)
      have hx := ho.2 x (List.mem_of_getElem? ha2)
      have inner : ∀ (d2 i : Nat), d2 = x.length - i → i ≤ x.length → ∀ (z : Int32) (l : List (Nat × Value)), z = nI (ctF (nwB rows.flatten) (offN rows j + i)) → lsel l [3, 2, 1, 0] = [(3, vI i), (2, vI j), (1, .int z), (0, .ref A)] → WR p la e (rmD 4 0 0) s m args below meth c D cA B0 4 (fun v h' => v = some (vI (shN rows.flatten)) ∧ h' = h) 12 l [] h 0 0 := by
        intro d2
        induction d2 with
        | zero =>
          intro i hd2 hi z l ez hl
          have hi2 : i = x.length := by omega
          subst hi2
          refine WS.sel [3, 2, 1, 0] hl ?_
          repeat refine fst1_ok X (dk rfl) rfl ?_
          refine ldr_ok X (dk rfl) hAs ha1 (by omega) ?_
          refine alen_ok X (by decide) (dk rfl) ha3 ?_
          rw [show (x.map vI).length = x.length from List.length_map _]
          refine br_ok X (dk rfl) rfl (show ((17 : Nat) : Int) + 26 = ((43 : Nat) : Int) from rfl) (fun c1 => ?_) (fun c1 => absurd (Int32.le_refl _) c1)
          repeat refine fst1_ok X (dk rfl) rfl ?_
          refine br_ok X (dk rfl) rfl (show ((46 : Nat) : Int) + (-42) = ((4 : Nat) : Int) from rfl) (fun _ => ?_) (fun q => absurd trivial q)
          have f2 : Value.int (nI j + Int32.ofInt 1) = vI (j + 1) := congrArg Value.int (by rw [nI_1', nI_add])
          refine WS.sel (l' := [(2, vI (j + 1)), (1, .int z), (0, .ref A)]) [2, 1, 0] (by rw [← f2]; rfl) ?_
          exact ih (j + 1) (by omega) (by omega) _ _ (by rw [ez, offN_succ ha2]) rfl
        | succ d2 ih2 =>
          intro i hd2 hi z l ez hl
          have f2 : Value.int (nI i + Int32.ofInt 1) = vI (i + 1) := congrArg Value.int (by rw [nI_1', nI_add])
          have back : ∀ (w : Int32) (l : List (Nat × Value)), z + w = nI (ctF (nwB rows.flatten) (offN rows j + (i + 1))) → lsel l [3, 2, 0] = [(3, vI i), (2, vI j), (0, .ref A)] → WR p la e (rmD 4 0 0) s m args below meth c D cA B0 4 (fun v h' => v = some (vI (shN rows.flatten)) ∧ h' = h) 35 l [.int w, .int z] h 0 0 := by
            intro w l ew hl
            refine WS.sel [3, 2, 0] hl ?_
            repeat refine fst1_ok X (dk rfl) rfl ?_
            refine br_ok X (dk rfl) rfl (show ((40 : Nat) : Int) + (-28) = ((12 : Nat) : Int) from rfl) (fun _ => ?_) (fun q => absurd trivial q)
            refine WS.sel (l' := [(3, vI (i + 1)), (2, vI j), (1, .int (z + w)), (0, .ref A)]) [3, 2, 1, 0] (by rw [← f2]; rfl) ?_
            exact ih2 (i + 1) (by omega) (by omega) _ _ ew rfl
          refine WS.sel [3, 2, 1, 0] hl ?_
          repeat refine fst1_ok X (dk rfl) rfl ?_
          refine ldr_ok X (dk rfl) hAs ha1 (by omega) ?_
          refine alen_ok X (by decide) (dk rfl) ha3 ?_
          rw [show (x.map vI).length = x.length from List.length_map _]
          refine br_ok X (dk rfl) rfl (show ((17 : Nat) : Int) + 26 = ((43 : Nat) : Int) from rfl) (fun c1 => absurd c1 (nI_ge (by omega) (by omega))) (fun c1 => ?_)
          repeat refine fst1_ok X (dk rfl) rfl ?_
          refine callS_ok (av := [.ref A, vI j, vI i]) (r := [.int z]) X E (x_isMet h hA ho ha2 (by omega)) lkX10_isMet mlX10_66 lsX10_isMet ⟨Nat.le_of_ble_eq_true rfl, Nat.le_of_ble_eq_true rfl⟩ ⟨Nat.le_of_ble_eq_true rfl, Nat.le_of_ble_eq_true rfl⟩ (Nat.le_of_ble_eq_true rfl) (dk rfl) ?_
          rintro v h' ⟨rfl, rfl⟩
          have ec : ctF (nwB rows.flatten) (offN rows j + (i + 1)) = ctF (nwB rows.flatten) (offN rows j + i) + (if nwB rows.flatten (offN rows j + i) = true then 1 else 0) := rfl
          by_cases en : nwB rows.flatten (offN rows j + i) = true
          · rw [if_pos en] at ec
            rw [if_pos en]
            refine br_ok X (dk rfl) rfl (show ((27 : Nat) : Int) + 7 = ((34 : Nat) : Int) from rfl) (fun c2 => ?_) (fun c2 => absurd rfl c2)
            refine fst1_ok X (dk rfl) rfl ?_
            exact back _ _ (by rw [ez, ec, nI_1', nI_add]) rfl
          · rw [if_neg en] at ec
            rw [if_neg en]
            refine br_ok X (dk rfl) rfl (show ((27 : Nat) : Int) + 7 = ((34 : Nat) : Int) from rfl) (fun c2 => absurd c2 (by decide)) (fun c2 => ?_)
            refine fst1_ok X (dk rfl) rfl ?_
            refine br_ok X (dk rfl) rfl (show ((31 : Nat) : Int) + 4 = ((35 : Nat) : Int) from rfl) (fun _ => ?_) (fun q => absurd trivial q)
            exact back _ _ (by rw [ez, ec, nI_0', nI_add]) rfl
      refine WS.sel [2, 1, 0] hl ?_
      repeat refine fst1_ok X (dk rfl) rfl ?_
      refine alen_ok X (by decide) (dk rfl) hAs ?_
      rw [show (as.map Value.ref).length = rows.length by rw [List.length_map, has]]
      refine br_ok X (dk rfl) rfl (show ((7 : Nat) : Int) + 42 = ((49 : Nat) : Int) from rfl) (fun c1 => absurd c1 (nI_ge (by omega) (by omega))) (fun c1 => ?_)
      iterate 2 refine fst1_ok X (dk rfl) rfl ?_
      exact inner _ 0 rfl (Nat.zero_le _) _ _ ez rfl
  iterate 4 refine fst1_ok X (dk rfl) rfl ?_
  exact outer _ 0 rfl (Nat.zero_le _) _ _ (by rw [offN_zero]; exact nI_0') rfl
set_option maxHeartbeats 4000000 in
theorem RF.x_sharedOf_ (h : AH) {q : Nat} {x : List Nat} (hq : h q = some (IA x)) (hx : TW x ∧ x.length ≤ 16) : CT la D cA B0 pa yX10_sharedOf_ cX10_sharedOf_ 1 (some .int) (rmD 5 1 1) [.ref q] h (fun v h' => v = some (vI (shN x)) ∧ Ext h h') := by
  refine CT_of (by decide +kernel) (Nat.le_of_ble_eq_true rfl) ?_
  intro p e s m args below meth c X E hr hlk hnm
  have dk : ∀ {pc : Nat} {q : Instr × Nat}, lkd DX10_sharedOf_ pc = some q → decode cX10_sharedOf_ pc = .ok q := lkd_ok DX10_sharedOf__ok
  refine fst1_ok X (dk rfl) rfl ?_
  refine newR_ok (N := 1) (kd := 105) X E (by decide) cl10_9 (by decide) (dk rfl) (by decide) (by decide) (fun T hT hBT => ?_)
  have hqT : q ≠ T := fun z => by rw [z, hT] at hq; cases hq
  repeat refine fst1_ok X (dk rfl) rfl ?_
  refine str_ok (j := 0) X (dk rfl) (hup_self _ _ _) (by rw [hup_ne _ _ hqT]; exact hq) (by simp) (by simp) ?_
  rw [hup_hup]
  have hA : Ans (hup h T (105, (List.replicate 1 Value.null).set 0 (.ref q))) T [x] := by
    refine ⟨[q], rfl, hup_self _ _ _, fun k a r e1 e2 => ?_⟩
    cases k with
    | zero => cases e1; cases e2; rw [hup_ne _ _ hqT]; exact hq
    | succ k => simp at e1
  refine callS_ok (av := [.ref T]) (r := []) X E (x_sharedOf _ hA ⟨by simp, fun r hr => by simp at hr; rw [hr]; exact hx⟩) lkX10_sharedOf mlX10_199 lsX10_sharedOf ⟨Nat.le_of_ble_eq_true rfl, Nat.le_of_ble_eq_true rfl⟩ ⟨Nat.le_of_ble_eq_true rfl, Nat.le_of_ble_eq_true rfl⟩ (Nat.le_of_ble_eq_true rfl) (dk rfl) ?_
  rintro v h2 ⟨rfl, rfl⟩
  exact reti_ok X hr hlk rfl (dk rfl) ⟨by rw [show [x].flatten = x by simp]; rfl, Ext.new hT _⟩ (Nat.le_of_ble_eq_true rfl) (Nat.le_of_ble_eq_true rfl)
end R19
end Uf19r5
section Uf21r6
/-! the reference's weight, exactly (printed by wip/q/genR6.py) -/
theorem or_bit : ∀ m : Nat, m < 256 → ∀ k : Nat, k < 8 → m < 2 ^ k → ∀ i : Nat, i < k + 1 → ((m ||| 2 ^ k) >>> i % 2 = if i = k then 1 else m >>> i % 2) := by decide +kernel
theorem movedN_bit (rows : List (List Nat)) : ∀ k : Nat, k ≤ 8 → ∀ i, i < k → movedN rows k >>> i % 2 = if rows[i]? = some [i] then 0 else 1
  | 0, _, i, h => absurd h (Nat.not_lt_zero _)
  | k + 1, hk, i, h => by
    have lt := movedN_lt rows k
    have l256 : movedN rows k < 256 := by
      have : 2 ^ k ≤ 2 ^ 8 := Nat.pow_le_pow_right (by decide) (by omega)
      omega
    unfold movedN
    by_cases c : rows[k]? = some [k]
    · rw [if_pos c]
      rcases Nat.lt_or_ge i k with z | z
      · exact movedN_bit rows k (by omega) i z
      · have e : i = k := by omega
        subst e
        rw [if_pos c, Nat.shiftRight_eq_div_pow, Nat.div_eq_of_lt lt]
    · rw [if_neg c, or_bit _ l256 k (by omega) lt i h]
      rcases Nat.lt_or_ge i k with z | z
      · rw [if_neg (by omega)]
        exact movedN_bit rows k (by omega) i z
      · have e : i = k := by omega
        subst e
        rw [if_pos rfl, if_neg c]
section R21
variable {la : Launch} {D : va_G} {cA : Nat → ClassId} {B0 pa : Nat} {o S A : Nat} {sl : List (List Nat)} {an : List (List (List Nat))} {da dr kn th : Int32}
end R21
end Uf21r6
