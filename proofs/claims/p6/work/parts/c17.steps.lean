/-! the class, strongly: two terms made alike by steps (printed by wip/p20/genT5.py) -/
/-- what names stand for, as a row of places -/
def SFR (h : AH) (R : Nat) (S : SS) : Prop := ∃ row : List Int32, h R = some (107, row.map Value.int) ∧ row.length = 8 ∧ ∀ n, n < 8 → row[n]? = some (pI (S n))
theorem SFR.set {h : AH} {R : Nat} {S : SS} (H : SFR h R S) {row : List Int32} (hr : h R = some (107, row.map Value.int)) {x t : Nat} (hx : x < 8) : SFR (hup h R (107, (row.set x (nI t)).map Value.int)) R (upS S x t) := by
  obtain ⟨row2, r1, r2, r3⟩ := H
  have e : row2 = row := by
    rw [r1] at hr
    have e1 : row2.map Value.int = row.map Value.int := (Prod.mk.inj (Option.some.inj hr)).2
    exact (List.map_inj_right (fun a b z => by cases z; rfl)).mp e1
  subst e
  refine ⟨_, hup_self _ _ _, by rw [List.length_set]; exact r2, fun n hn => ?_⟩
  by_cases en : n = x
  · subst en
    rw [List.getElem?_set_self (by omega), upS_self]
    rfl
  · rw [List.getElem?_set_ne (Ne.symm en), upS_ne S t en]
    exact r3 n hn
theorem TS.outQ {B Q : Nat → Nat} {h : AH} {F : Nat → TC} (Y : LYO B Q) (S : TS B Q h F) {j : Nat} (h1 : 60 ≤ j) (h2 : j < 70) {vs : List Value} (e : h (Q j) = some (107, vs)) (c : AC) : TS B Q (hup h (Q j) c) F := fun i hi => by
  obtain ⟨s1, s2, xs, s3, s4⟩ := S i hi
  exact ⟨s1, by rw [hup_ne _ _ (k_ne s2 e (by decide))]; exact s2, xs, by rw [hup_ne _ _ (fun z => by have := Y.2 _ _ (by omega) h2 z; omega)]; exact s3, s4⟩
theorem PRS.out {h : AH} {pb a1 a2 : Nat} {ps : PL2} (H : PRS h pb a1 a2 ps) {a : Nat} (h0 : a ≠ pb) (h1 : a ≠ a1) (h2 : a ≠ a2) (c : AC) : PRS (hup h a c) pb a1 a2 ps := by
  obtain ⟨g1, g2, g3, ⟨xs, x1, x2, x3⟩, ys, y1, y2, y3⟩ := H
  exact ⟨g1, g2, by rw [hup_ne _ _ (Ne.symm h0)]; exact g3, ⟨xs, by rw [hup_ne _ _ (Ne.symm h1)]; exact x1, x2, x3⟩, ys, by rw [hup_ne _ _ (Ne.symm h2)]; exact y1, y2, y3⟩
theorem kdL_get (X : List Nat) (a b : Nat) : ∀ k j i, i < k → (kdL X a b k j)[i]? = some (ko X a (j + i), ko X b (j + i))
  | 0, j, i, h => by omega
  | k + 1, j, 0, h => rfl
  | k + 1, j, i + 1, h => by
    show (kdL X a b k (j + 1))[i]? = _
    rw [kdL_get X a b k (j + 1) i (by omega), show j + 1 + i = j + (i + 1) by omega]
/-- the cells that steps write to -/
def LSt (P Q : Nat → Nat) : List Nat := [P 4, Q 60, P 13, Q 64, Q 65]
def STP (B Q P : Nat → Nat) (h : AH) (F : Nat → TC) (X : List Nat) (S : SS) (ps : PL2) (tk en : Int32) : Prop :=
  TS B Q h F ∧ TN (F 50) X ∧ h (P 4) = some (6, [.ref (B 50), .ref (Q 60), .ref (P 13), .int tk, .int en]) ∧ SFR h (Q 60) S ∧ PRS h (P 13) (Q 64) (Q 65) ps
section STs
variable {B Q P : Nat → Nat} {h h' : AH} {F : Nat → TC} {X : List Nat} {S : SS} {ps qs : PL2} {tk en : Int32}
theorem STP.fld (T : STP B Q P h F X S ps tk en) (tk' en' : Int32) : STP B Q P (hup h (P 4) (6, [.ref (B 50), .ref (Q 60), .ref (P 13), .int tk', .int en'])) F X S ps tk' en' := by
  obtain ⟨t1, t2, t3, ⟨row, r1, r2, r3⟩, t5⟩ := T
  obtain ⟨-, -, g3, ⟨xs, x1, -⟩, ys, y1, -⟩ := id t5
  exact ⟨t1.out t3 (by decide) (by decide) _, t2, hup_self _ _ _, ⟨row, by rw [hup_ne _ _ (k_ne r1 t3 (by decide))]; exact r1, r2, r3⟩, t5.out (k_ne t3 g3 (by decide)) (k_ne t3 x1 (by decide)) (k_ne t3 y1 (by decide)) _⟩
theorem STP.row (Y : LYO B Q) (T : STP B Q P h F X S ps tk en) {x t : Nat} (hx : x < 8) : ∃ row : List Int32, h (Q 60) = some (107, row.map Value.int) ∧ row.length = 8 ∧ (∀ n, n < 8 → row[n]? = some (pI (S n))) ∧ STP B Q P (hup h (Q 60) (107, (row.set x (nI t)).map Value.int)) F X (upS S x t) ps tk en := by
  obtain ⟨t1, t2, t3, ⟨row, r1, r2, r3⟩, t5⟩ := T
  have H : SFR h (Q 60) S := ⟨row, r1, r2, r3⟩
  obtain ⟨-, -, g3, ⟨xs, x1, -⟩, ys, y1, -⟩ := id t5
  exact ⟨row, r1, r2, r3, t1.outQ Y (by decide) (by decide) r1 _, t2, by rw [hup_ne _ _ (k_ne t3 r1 (by decide))]; exact t3, H.set r1 hx, t5.out (k_ne r1 g3 (by decide)) (fun z => by have := Y.2 60 64 (by decide) (by decide) z; omega) (fun z => by have := Y.2 60 65 (by decide) (by decide) z; omega) _⟩
theorem hAq (Y : LYO B Q) {a b : Nat} (h1 : 60 ≤ a) (h2 : a < 70) (h3 : 60 ≤ b) (h4 : b < 70) : ∀ i, i < 52 → Q a ≠ Q i ∧ Q b ≠ Q i := fun i hi => ⟨fun z => by have := Y.2 _ _ h2 (by omega) z; omega, fun z => by have := Y.2 _ _ h4 (by omega) z; omega⟩
/-- other pairs -/
theorem STP.pr (Y : LYO B Q) (T : STP B Q P h F X S ps tk en) (H : PRS h' (P 13) (Q 64) (Q 65) qs) (f : FrP (P 13) (Q 64) (Q 65) h h') : STP B Q P h' F X S qs tk en := by
  obtain ⟨t1, t2, t3, ⟨row, r1, r2, r3⟩, t5⟩ := T
  obtain ⟨-, -, g3, -⟩ := id t5
  exact ⟨t1.frPw f t5.w (hAq Y (by decide) (by decide) (by decide) (by decide)), t2, f.keep t5.w t3 (by decide) (by decide), ⟨row, by rw [f (Q 60) (k_ne r1 g3 (by decide)) (fun z => by have := Y.2 60 64 (by decide) (by decide) z; omega) (fun z => by have := Y.2 60 65 (by decide) (by decide) z; omega)]; exact r1, r2, r3⟩, H⟩
end STs
/-- a step keeps places within the row -/
theorem kdL_in {X : List Nat} (hX : BX X) {a b : Nat} (ha : a < X.length) (hb : b < X.length) (hg : gl X a = gl X b) : ∀ z ∈ kdL X a b (ga X a) 0, z.1 < X.length ∧ z.2 < X.length := fun z hz => by
  obtain ⟨i, hi⟩ := List.getElem?_of_mem hz
  have hl := (List.getElem?_eq_some_iff.mp hi).1
  rw [kdL_len] at hl
  rw [kdL_get X a b _ 0 i hl, Nat.zero_add] at hi
  cases hi
  exact ⟨(ko_mono hX ha hl).2.2.2.2, (ko_mono hX hb (by rw [← ga_eq hg]; exact hl)).2.2.2.2⟩
theorem stepM_ok {X : List Nat} (hX : BX X) {S : SS} (hS : S1 X S) {u1 u2 : Nat} (h1 : u1 < X.length) (h2 : u2 < X.length) : S1 X (stepM X S u1 u2).1 ∧ (∀ z ∈ (stepM X S u1 u2).2.2, z.1 < X.length ∧ z.2 < X.length) ∧ (stepM X S u1 u2).2.1 ≤ 2 ∧ (stepM X S u1 u2).2.2.length ≤ 3 := by
  obtain ⟨d1, d2, d3⟩ := dp_ok hX hS h1
  obtain ⟨d4, d5, d6⟩ := dp_ok hX hS h2
  have no : ∀ z ∈ ([] : PL2), z.1 < X.length ∧ z.2 < X.length := fun z hz => by simp at hz
  unfold stepM
  by_cases hx : gl X (dp X S u1) < 10
  · have hx8 := gl_8 hX d3 hx
    rw [if_pos hx]
    by_cases hy : gl X (dp X S u2) < 10
    · have hy8 := gl_8 hX d6 hy
      rw [if_pos hy]
      by_cases c1 : gl X (dp X S u2) < gl X (dp X S u1)
      · rw [if_pos c1]
        exact ⟨S1_up hS hx8 d6 (fun _ => c1), no, Nat.le_of_ble_eq_true rfl, Nat.le_of_ble_eq_true rfl⟩
      · rw [if_neg c1]
        by_cases c2 : gl X (dp X S u1) < gl X (dp X S u2)
        · rw [if_pos c2]
          exact ⟨S1_up hS hy8 d3 (fun _ => c2), no, Nat.le_of_ble_eq_true rfl, Nat.le_of_ble_eq_true rfl⟩
        · rw [if_neg c2]
          exact ⟨hS, no, Nat.le_of_ble_eq_true rfl, Nat.le_of_ble_eq_true rfl⟩
    · rw [if_neg hy]
      split
      · exact ⟨hS, no, Nat.le_of_ble_eq_true rfl, Nat.le_of_ble_eq_true rfl⟩
      · exact ⟨S1_up hS hx8 d6 (fun z => absurd z hy), no, Nat.le_of_ble_eq_true rfl, Nat.le_of_ble_eq_true rfl⟩
  · rw [if_neg hx]
    by_cases hy : gl X (dp X S u2) < 10
    · have hy8 := gl_8 hX d6 hy
      rw [if_pos hy]
      split
      · exact ⟨hS, no, Nat.le_of_ble_eq_true rfl, Nat.le_of_ble_eq_true rfl⟩
      · exact ⟨S1_up hS hy8 d3 (fun z => absurd z hx), no, Nat.le_of_ble_eq_true rfl, Nat.le_of_ble_eq_true rfl⟩
    · rw [if_neg hy]
      split
      · rename_i hg
        exact ⟨hS, kdL_in hX d3 d6 hg, Nat.le_of_ble_eq_true rfl, by show (kdL X _ _ _ 0).length ≤ 3; rw [kdL_len]; exact ga_le hX d3⟩
      · exact ⟨hS, no, Nat.le_of_ble_eq_true rfl, Nat.le_of_ble_eq_true rfl⟩
section S17
variable {la : Launch} {D : va_G} {cA : Nat → ClassId} {B0 pa : Nat} {B Q P : Nat → Nat} {F : Nat → TC} {pb a1 a2 : Nat} {ps : PL2} {tk en : Int32}
set_option maxHeartbeats 4000000 in
theorem sJ7_fill (h : AH) {R : Nat} {xs : List Int32} (hr0 : h R = some (107, xs.map Value.int)) (hl0 : xs.length = 8) (xv : Int32) : CT la D cA B0 pa yJ7_fill_53178 cJ7_fill_53178 4 none (rmD 0 0 0) [.ref R, .int xv] h (fun v h' => v = none ∧ h' R = some (107, (List.replicate 8 xv).map Value.int) ∧ ∀ a : Nat, a ≠ R → h' a = h a) := by
  refine CT_of (by decide +kernel) (Nat.le_of_ble_eq_true rfl) ?_
  intro p e s m args below meth c X E hr hlk hnm
  have dk : ∀ {pc : Nat} {q : Instr × Nat}, lkd DJ7_fill_53178 pc = some q → decode cJ7_fill_53178 pc = .ok q := lkd_ok DJ7_fill_53178_ok
  have loop : ∀ (u k : Nat) (xs : List Int32) (h1 : AH), u + k = 8 → xs.length = 8 → xs.take k = List.replicate k xv → h1 R = some (107, xs.map Value.int) → (∀ a : Nat, a ≠ R → h1 a = h a) → ∀ l : List (Nat × Value), lsel l [3, 2, 1, 0] = [(3, vI 8), (2, vI k), (1, .int xv), (0, .ref R)] → WR p la e (rmD 0 0 0) s m args below meth c D cA B0 4 (fun v h' => v = none ∧ h' R = some (107, (List.replicate 8 xv).map Value.int) ∧ ∀ a : Nat, a ≠ R → h' a = h a) 5 l [] h1 0 0 := by
    intro u
    induction u with
    | zero =>
      intro k xs h1 hk hl8 ht hr1 ho l hl
      have hk8 : k = 8 := by omega
      subst hk8
      refine WS.sel [3, 2, 1, 0] hl ?_
      iterate 2 refine fst1_ok X (dk rfl) rfl ?_
      refine br_ok X (dk rfl) rfl (show ((7 : Nat) : Int) + 13 = ((20 : Nat) : Int) from rfl) (fun _ => ?_) (fun q => absurd (Int32.le_refl _) q)
      rw [List.take_of_length_le (by omega)] at ht
      rw [ht] at hr1
      exact retv_ok X hr hlk (dk rfl) (⟨rfl, hr1, ho⟩) (Nat.le_of_ble_eq_true rfl) (Nat.le_of_ble_eq_true rfl)
    | succ u ih =>
      intro k xs h1 hk hl8 ht hr1 ho l hl
      refine WS.sel [3, 2, 1, 0] hl ?_
      iterate 2 refine fst1_ok X (dk rfl) rfl ?_
      refine br_ok X (dk rfl) rfl (show ((7 : Nat) : Int) + 13 = ((20 : Nat) : Int) from rfl) (fun q => absurd q (nI_ge (a := k) (b := 8) (by omega) (by omega))) (fun _ => ?_)
      iterate 3 refine fst1_ok X (dk rfl) rfl ?_
      refine ast7_ok X (dk rfl) hr1 (nI_pos (by omega)) (by rw [nI_clamp (by omega)]; omega) ?_
      rw [nI_clamp (by omega)]
      refine fst1_ok X (dk rfl) rfl ?_
      refine br_ok X (dk rfl) rfl (show ((17 : Nat) : Int) + (-12) = ((5 : Nat) : Int) from rfl) (fun _ => ?_) (fun q => absurd trivial q)
      have f2 : Value.int (nI k + Int32.ofInt 1) = vI (k + 1) := congrArg Value.int (by rw [nI_1', nI_add])
      refine WS.sel (l' := [(3, vI 8), (2, vI (k + 1)), (1, .int xv), (0, .ref R)]) [3, 2, 1, 0] (by rw [← f2]; rfl) ?_
      exact ih (k + 1) (xs.set k xv) _ (by omega) (by rw [List.length_set]; exact hl8) (by rw [take_snoc ht (by omega), List.replicate_succ']) (hup_self _ _ _) (fun a ha => by rw [hup_ne _ _ ha]; exact ho a ha) _ rfl
  iterate 3 refine fst1_ok X (dk rfl) rfl ?_
  refine alen7_ok X (dk rfl) hr0 hl0 ?_
  refine fst1_ok X (dk rfl) rfl ?_
  exact loop 8 0 xs h rfl hl0 rfl hr0 (fun a _ => rfl) _ rfl
theorem dec_lt {n : Nat} (h : n < 2 ^ 20) : nI n + Int32.ofInt (-1) < nI n := by
  rw [Int32.lt_iff_toInt_lt, Int32.toInt_add, show (Int32.ofInt (-1)).toInt = -1 by decide +kernel]
  have e : (nI n).toInt = (n : Int) := Int32.toInt_ofNat_of_lt (by omega)
  rw [e]
  have e3 : ((n : Int) + -1).bmod (2 ^ 32) = (n : Int) + -1 := Int.bmod_eq_of_le (by omega) (by omega)
  rw [e3]
  omega
theorem sub_lt {n : Nat} (h : n < 2 ^ 20) : nI n - Int32.ofInt 1 < nI n := by
  rw [Int32.lt_iff_toInt_lt, Int32.toInt_sub, show (Int32.ofInt 1).toInt = 1 by decide +kernel]
  have e : (nI n).toInt = (n : Int) := Int32.toInt_ofNat_of_lt (by omega)
  rw [e]
  have e3 : ((n : Int) - 1).bmod (2 ^ 32) = (n : Int) - 1 := Int.bmod_eq_of_le (by omega) (by omega)
  rw [e3]
  omega
set_option maxHeartbeats 32000000 in
theorem s2_addParts (h : AH) (H : PRS h pb a1 a2 ps) (ha : a1 ≠ a2) (hA : ∀ i, i < 52 → a1 ≠ Q i ∧ a2 ≠ Q i) (S : TS B Q h F) {i : Nat} (hi : i < 52) {X1 : List Nat} (hX : BX X1) (hN : TN (F i) X1) {u1 u2 : Nat} (hu1 : u1 < X1.length) (hu2 : u2 < X1.length) (hg : gl X1 u1 = gl X1 u2) (hl3 : ps.length + ga X1 u1 ≤ 128) : CT la D cA B0 pa yX2_addParts cX2_addParts 8 none (rmD 2 0 0) [.ref pb, .ref (B i), vI u1, vI u2] h (PP pb a1 a2 (ps ++ (kdL X1 u1 u2 (ga X1 u1) 0).reverse) h) := by
  refine CT_of (by decide +kernel) (Nat.le_of_ble_eq_true rfl) ?_
  intro p e s m args below meth c X E hr hlk hnm
  have dk : ∀ {pc : Nat} {q : Instr × Nat}, lkd DX2_addParts pc = some q → decode cX2_addParts pc = .ok q := lkd_ok DX2_addParts_ok
  have hX32 := hX.2.2
  have hgb : ga X1 u2 = ga X1 u1 := (ga_eq hg).symm
  have h3 := ga_le hX hu1
  have hgx := gl_get hu1
  have hok := gl_ok hX hu1
  have hyx := hok.lt
  obtain ⟨hw1, hw2, hw3, ⟨xs, x1, x2, x3⟩, ys, y1, y2, y3⟩ := id H
  have fin : ∀ (h1 : AH) (xs ys : List Int32) (x7 x6 x5 : Int32), x7 < nI ps.length → h1 pb = some (4, [.ref a1, .ref a2, vI ps.length]) → h1 a1 = some (107, xs.map Value.int) → xs.length = 128 → xs.take ps.length = ps.map (fun q => nI q.1) → h1 a2 = some (107, ys.map Value.int) → ys.length = 128 → ys.take ps.length = ps.map (fun q => nI q.2) → (∀ t, t < ga X1 u1 → xs[ps.length + ga X1 u1 - 1 - t]? = some (nI (ko X1 u1 t)) ∧ ys[ps.length + ga X1 u1 - 1 - t]? = some (nI (ko X1 u2 t))) → FrP pb a1 a2 h h1 → ∀ l : List (Nat × Value), lsel l [7, 6, 5, 4, 1, 0] = [(7, .int x7), (6, .int x6), (5, .int x5), (4, vI (ga X1 u1)), (1, .ref (B i)), (0, .ref pb)] → WR p la e (rmD 2 0 0) s m args below meth c D cA B0 8 (PP pb a1 a2 (ps ++ (kdL X1 u1 u2 (ga X1 u1) 0).reverse) h) 52 l [] h1 0 0 := by
    intro h1 xs ys x7 x6 x5 hlt g1 g2 g3 g4 g5 g6 g7 g8 f1 l hl
    refine WS.sel [7, 6, 5, 4, 1, 0] hl ?_
    iterate 2 refine fst1_ok X (dk rfl) rfl ?_
    refine getf_ok X flX2_18 (dk rfl) g1 rfl ?_
    refine br_ok X (dk rfl) rfl (show ((58 : Nat) : Int) + 43 = ((101 : Nat) : Int) from rfl) (fun _ => ?_) (fun q => absurd hlt q)
    iterate 2 refine fst1_ok X (dk rfl) rfl ?_
    refine getf_ok X flX2_18 (dk rfl) g1 rfl ?_
    iterate 2 refine fst1_ok X (dk rfl) rfl ?_
    rw [nI_add]
    refine putf_ok X flX2_18 ftX2_2 (Or.inl rfl) rfl rfl (dk rfl) g1 (Nat.le_of_ble_eq_true rfl) ?_
    have el : (ps ++ (kdL X1 u1 u2 (ga X1 u1) 0).reverse).length = ps.length + ga X1 u1 := by rw [List.length_append, List.length_reverse, kdL_len]
    have key : ∀ (zs : List Int32) (pj : Nat × Nat → Int32) (kk : Nat → Nat), zs.length = 128 → zs.take ps.length = ps.map pj → (∀ t, t < ga X1 u1 → zs[ps.length + ga X1 u1 - 1 - t]? = some (nI (kk t))) → (∀ t, pj (ko X1 u1 t, ko X1 u2 t) = nI (kk t)) → zs.take (ps.length + ga X1 u1) = (ps ++ (kdL X1 u1 u2 (ga X1 u1) 0).reverse).map pj := by
      intro zs pj kk k1 k2 k3 k4
      apply List.ext_getElem?
      intro j
      rw [List.map_append]
      rcases Nat.lt_or_ge j ps.length with c1 | c1
      · rw [List.getElem?_append_left (by rw [List.length_map]; exact c1), List.getElem?_take_of_lt (by omega), ← k2, List.getElem?_take_of_lt c1]
      · rcases Nat.lt_or_ge j (ps.length + ga X1 u1) with c2 | c2
        · rw [List.getElem?_append_right (by rw [List.length_map]; exact c1), List.length_map, List.getElem?_take_of_lt c2, List.getElem?_map, List.getElem?_reverse (by rw [kdL_len]; omega), kdL_len, kdL_get X1 u1 u2 _ 0 _ (by omega), Nat.zero_add]
          have k5 := k3 (ga X1 u1 - 1 - (j - ps.length)) (by omega)
          rw [show ps.length + ga X1 u1 - 1 - (ga X1 u1 - 1 - (j - ps.length)) = j by omega] at k5
          rw [k5, Option.map_some, k4]
        · rw [List.getElem?_eq_none (by rw [List.length_take]; omega), List.getElem?_eq_none (by rw [List.length_append, List.length_map, List.length_map, List.length_reverse, kdL_len]; omega)]
    exact retv_ok X hr hlk (dk rfl) ⟨rfl, ⟨by rw [el]; omega, fun z hz => (List.mem_append.mp hz).elim (hw2 z) (fun k => by have := kdL_in hX hu1 hu2 hg z (List.mem_reverse.mp k); omega), by rw [el]; exact hup_self _ _ _, ⟨xs, by rw [hup_ne _ _ (k_ne g2 g1 (by decide))]; exact g2, g3, by rw [el]; exact key xs (fun q => nI q.1) (ko X1 u1) g3 g4 (fun t ht => (g8 t ht).1) (fun t => rfl)⟩, ys, by rw [hup_ne _ _ (k_ne g5 g1 (by decide))]; exact g5, g6, by rw [el]; exact key ys (fun q => nI q.2) (ko X1 u2) g6 g7 (fun t ht => (g8 t ht).2) (fun t => rfl)⟩, f1.set (Or.inl rfl) _⟩ (Nat.le_of_ble_eq_true rfl) (Nat.le_of_ble_eq_true rfl)
  have loop : ∀ (u j : Nat) (h1 : AH) (xs ys : List Int32), u + 1 + j = ga X1 u1 → TS B Q h1 F → h1 pb = some (4, [.ref a1, .ref a2, vI ps.length]) → h1 a1 = some (107, xs.map Value.int) → xs.length = 128 → xs.take ps.length = ps.map (fun q => nI q.1) → h1 a2 = some (107, ys.map Value.int) → ys.length = 128 → ys.take ps.length = ps.map (fun q => nI q.2) → (∀ t, t < j → xs[ps.length + ga X1 u1 - 1 - t]? = some (nI (ko X1 u1 t)) ∧ ys[ps.length + ga X1 u1 - 1 - t]? = some (nI (ko X1 u2 t))) → FrP pb a1 a2 h h1 → ∀ l : List (Nat × Value), lsel l [7, 6, 5, 4, 1, 0] = [(7, vI (ps.length + u)), (6, vI (ko X1 u2 j)), (5, vI (ko X1 u1 j)), (4, vI (ga X1 u1)), (1, .ref (B i)), (0, .ref pb)] → WR p la e (rmD 2 0 0) s m args below meth c D cA B0 8 (PP pb a1 a2 (ps ++ (kdL X1 u1 u2 (ga X1 u1) 0).reverse) h) 52 l [] h1 0 0 := by
    intro u
    induction u with
    | zero =>
      intro j h1 xs ys hj S1 g1 g2 g3 g4 g5 g6 g7 g8 f1 l hl
      obtain ⟨p1, p2, p3, p4, p5⟩ := ko_mono hX hu1 (j := j) (by omega)
      obtain ⟨q1, q2, q3, q4, q5⟩ := ko_mono hX hu2 (j := j) (by omega)
      have es : ps.length + ga X1 u1 - 1 - j = ps.length + 0 := by omega
      refine WS.sel [7, 6, 5, 4, 1, 0] hl ?_
      iterate 2 refine fst1_ok X (dk rfl) rfl ?_
      refine getf_ok X flX2_18 (dk rfl) g1 rfl ?_
      refine br_ok X (dk rfl) rfl (show ((58 : Nat) : Int) + 43 = ((101 : Nat) : Int) from rfl) (fun q => absurd q (Int32.not_lt.mpr ((nI_leI (by omega) (by omega)).mpr (by omega)))) (fun _ => ?_)
      refine fst1_ok X (dk rfl) rfl ?_
      refine getf_ok X flX2_11 (dk rfl) g1 rfl ?_
      iterate 2 refine fst1_ok X (dk rfl) rfl ?_
      refine ast7_ok X (dk rfl) g2 (nI_pos (by omega)) (by rw [nI_clamp (by omega)]; omega) ?_
      rw [nI_clamp (by omega)]
      have g1a : hup h1 a1 (107, (xs.set (ps.length + 0) (nI (ko X1 u1 j))).map Value.int) pb = some (4, [.ref a1, .ref a2, vI ps.length]) := by rw [hup_ne _ _ (k_ne g1 g2 (by decide))]; exact g1
      have g5a : hup h1 a1 (107, (xs.set (ps.length + 0) (nI (ko X1 u1 j))).map Value.int) a2 = some (107, ys.map Value.int) := by rw [hup_ne _ _ (Ne.symm ha)]; exact g5
      refine fst1_ok X (dk rfl) rfl ?_
      refine getf_ok X flX2_15 (dk rfl) g1a rfl ?_
      iterate 2 refine fst1_ok X (dk rfl) rfl ?_
      refine ast7_ok X (dk rfl) g5a (nI_pos (by omega)) (by rw [nI_clamp (by omega)]; omega) ?_
      rw [nI_clamp (by omega)]
      have f2 : FrP pb a1 a2 h1 (hup (hup h1 a1 (107, (xs.set (ps.length + 0) (nI (ko X1 u1 j))).map Value.int)) a2 (107, (ys.set (ps.length + 0) (nI (ko X1 u2 j))).map Value.int)) := ((FrP.rf h1).set (Or.inr (Or.inl rfl)) _).set (Or.inr (Or.inr rfl)) _
      have S2 := S1.frP f2 g1 g2 g5 hA
      have n1 : (hup (hup h1 a1 (107, (xs.set (ps.length + 0) (nI (ko X1 u1 j))).map Value.int)) a2 (107, (ys.set (ps.length + 0) (nI (ko X1 u2 j))).map Value.int)) pb = some (4, [.ref a1, .ref a2, vI ps.length]) := by rw [hup_ne _ _ (k_ne g1 g5 (by decide))]; exact g1a
      have n2 : (hup (hup h1 a1 (107, (xs.set (ps.length + 0) (nI (ko X1 u1 j))).map Value.int)) a2 (107, (ys.set (ps.length + 0) (nI (ko X1 u2 j))).map Value.int)) a1 = some (107, (xs.set (ps.length + 0) (nI (ko X1 u1 j))).map Value.int) := by rw [hup_ne _ _ ha, hup_self]
      have n5 : (hup (hup h1 a1 (107, (xs.set (ps.length + 0) (nI (ko X1 u1 j))).map Value.int)) a2 (107, (ys.set (ps.length + 0) (nI (ko X1 u2 j))).map Value.int)) a2 = some (107, (ys.set (ps.length + 0) (nI (ko X1 u2 j))).map Value.int) := hup_self _ _ _
      have n8 : ∀ t, t < j + 1 → (xs.set (ps.length + 0) (nI (ko X1 u1 j)))[ps.length + ga X1 u1 - 1 - t]? = some (nI (ko X1 u1 t)) ∧ (ys.set (ps.length + 0) (nI (ko X1 u2 j)))[ps.length + ga X1 u1 - 1 - t]? = some (nI (ko X1 u2 t)) := fun t ht => by
        by_cases et : t = j
        · subst et
          rw [es, List.getElem?_set_self (by omega), List.getElem?_set_self (by omega)]
          exact ⟨rfl, rfl⟩
        · rw [List.getElem?_set_ne (by omega), List.getElem?_set_ne (by omega)]
          exact g8 t (by omega)
      iterate 2 refine fst1_ok X (dk rfl) rfl ?_
      refine callVR_ok (ci := 7) (T := TX5) (N := 3) (av := [vI (ko X1 u1 j)]) (r := []) X E (s5_endOf _ S2 hi hN (bx_tl hX p5).1) lkX5_endOf mlX2_31 lmX5_endOf lpX5_endOf ⟨Nat.le_of_ble_eq_true rfl, Nat.le_of_ble_eq_true rfl⟩ ⟨Nat.le_of_ble_eq_true rfl, Nat.le_of_ble_eq_true rfl⟩ rfl ⟨_, (S2 i hi).2.1⟩ (Nat.le_of_ble_eq_true rfl) (dk rfl) ?_
      rintro _ rfl
      iterate 3 refine fst1_ok X (dk rfl) rfl ?_
      refine callVR_ok (ci := 7) (T := TX5) (N := 3) (av := [vI (ko X1 u2 j)]) (r := []) X E (s5_endOf _ S2 hi hN (bx_tl hX q5).1) lkX5_endOf mlX2_31 lmX5_endOf lpX5_endOf ⟨Nat.le_of_ble_eq_true rfl, Nat.le_of_ble_eq_true rfl⟩ ⟨Nat.le_of_ble_eq_true rfl, Nat.le_of_ble_eq_true rfl⟩ rfl ⟨_, (S2 i hi).2.1⟩ (Nat.le_of_ble_eq_true rfl) (dk rfl) ?_
      rintro _ rfl
      iterate 2 refine fst1_ok X (dk rfl) rfl ?_
      refine br_ok X (dk rfl) rfl (show ((98 : Nat) : Int) + (-46) = ((52 : Nat) : Int) from rfl) (fun _ => ?_) (fun q => absurd trivial q)
      exact fin _ _ _ _ _ _ (by rw [Nat.add_zero]; exact dec_lt (by omega)) n1 n2 (by rw [List.length_set]; exact g3) (by rw [List.take_set, List.set_eq_of_length_le (by rw [List.length_take]; omega)]; exact g4) n5 (by rw [List.length_set]; exact g6) (by rw [List.take_set, List.set_eq_of_length_le (by rw [List.length_take]; omega)]; exact g7) (fun t ht => n8 t (by omega)) (f1.trans f2) _ rfl
    | succ u ih =>
      intro j h1 xs ys hj S1 g1 g2 g3 g4 g5 g6 g7 g8 f1 l hl
      obtain ⟨p1, p2, p3, p4, p5⟩ := ko_mono hX hu1 (j := j) (by omega)
      obtain ⟨q1, q2, q3, q4, q5⟩ := ko_mono hX hu2 (j := j) (by omega)
      have es : ps.length + ga X1 u1 - 1 - j = ps.length + (u + 1) := by omega
      refine WS.sel [7, 6, 5, 4, 1, 0] hl ?_
      iterate 2 refine fst1_ok X (dk rfl) rfl ?_
      refine getf_ok X flX2_18 (dk rfl) g1 rfl ?_
      refine br_ok X (dk rfl) rfl (show ((58 : Nat) : Int) + 43 = ((101 : Nat) : Int) from rfl) (fun q => absurd q (Int32.not_lt.mpr ((nI_leI (by omega) (by omega)).mpr (by omega)))) (fun _ => ?_)
      refine fst1_ok X (dk rfl) rfl ?_
      refine getf_ok X flX2_11 (dk rfl) g1 rfl ?_
      iterate 2 refine fst1_ok X (dk rfl) rfl ?_
      refine ast7_ok X (dk rfl) g2 (nI_pos (by omega)) (by rw [nI_clamp (by omega)]; omega) ?_
      rw [nI_clamp (by omega)]
      have g1a : hup h1 a1 (107, (xs.set (ps.length + (u + 1)) (nI (ko X1 u1 j))).map Value.int) pb = some (4, [.ref a1, .ref a2, vI ps.length]) := by rw [hup_ne _ _ (k_ne g1 g2 (by decide))]; exact g1
      have g5a : hup h1 a1 (107, (xs.set (ps.length + (u + 1)) (nI (ko X1 u1 j))).map Value.int) a2 = some (107, ys.map Value.int) := by rw [hup_ne _ _ (Ne.symm ha)]; exact g5
      refine fst1_ok X (dk rfl) rfl ?_
      refine getf_ok X flX2_15 (dk rfl) g1a rfl ?_
      iterate 2 refine fst1_ok X (dk rfl) rfl ?_
      refine ast7_ok X (dk rfl) g5a (nI_pos (by omega)) (by rw [nI_clamp (by omega)]; omega) ?_
      rw [nI_clamp (by omega)]
      have f2 : FrP pb a1 a2 h1 (hup (hup h1 a1 (107, (xs.set (ps.length + (u + 1)) (nI (ko X1 u1 j))).map Value.int)) a2 (107, (ys.set (ps.length + (u + 1)) (nI (ko X1 u2 j))).map Value.int)) := ((FrP.rf h1).set (Or.inr (Or.inl rfl)) _).set (Or.inr (Or.inr rfl)) _
      have S2 := S1.frP f2 g1 g2 g5 hA
      have n1 : (hup (hup h1 a1 (107, (xs.set (ps.length + (u + 1)) (nI (ko X1 u1 j))).map Value.int)) a2 (107, (ys.set (ps.length + (u + 1)) (nI (ko X1 u2 j))).map Value.int)) pb = some (4, [.ref a1, .ref a2, vI ps.length]) := by rw [hup_ne _ _ (k_ne g1 g5 (by decide))]; exact g1a
      have n2 : (hup (hup h1 a1 (107, (xs.set (ps.length + (u + 1)) (nI (ko X1 u1 j))).map Value.int)) a2 (107, (ys.set (ps.length + (u + 1)) (nI (ko X1 u2 j))).map Value.int)) a1 = some (107, (xs.set (ps.length + (u + 1)) (nI (ko X1 u1 j))).map Value.int) := by rw [hup_ne _ _ ha, hup_self]
      have n5 : (hup (hup h1 a1 (107, (xs.set (ps.length + (u + 1)) (nI (ko X1 u1 j))).map Value.int)) a2 (107, (ys.set (ps.length + (u + 1)) (nI (ko X1 u2 j))).map Value.int)) a2 = some (107, (ys.set (ps.length + (u + 1)) (nI (ko X1 u2 j))).map Value.int) := hup_self _ _ _
      have n8 : ∀ t, t < j + 1 → (xs.set (ps.length + (u + 1)) (nI (ko X1 u1 j)))[ps.length + ga X1 u1 - 1 - t]? = some (nI (ko X1 u1 t)) ∧ (ys.set (ps.length + (u + 1)) (nI (ko X1 u2 j)))[ps.length + ga X1 u1 - 1 - t]? = some (nI (ko X1 u2 t)) := fun t ht => by
        by_cases et : t = j
        · subst et
          rw [es, List.getElem?_set_self (by omega), List.getElem?_set_self (by omega)]
          exact ⟨rfl, rfl⟩
        · rw [List.getElem?_set_ne (by omega), List.getElem?_set_ne (by omega)]
          exact g8 t (by omega)
      iterate 2 refine fst1_ok X (dk rfl) rfl ?_
      refine callVR_ok (ci := 7) (T := TX5) (N := 3) (av := [vI (ko X1 u1 j)]) (r := []) X E (s5_endOf _ S2 hi hN (bx_tl hX p5).1) lkX5_endOf mlX2_31 lmX5_endOf lpX5_endOf ⟨Nat.le_of_ble_eq_true rfl, Nat.le_of_ble_eq_true rfl⟩ ⟨Nat.le_of_ble_eq_true rfl, Nat.le_of_ble_eq_true rfl⟩ rfl ⟨_, (S2 i hi).2.1⟩ (Nat.le_of_ble_eq_true rfl) (dk rfl) ?_
      rintro _ rfl
      iterate 3 refine fst1_ok X (dk rfl) rfl ?_
      refine callVR_ok (ci := 7) (T := TX5) (N := 3) (av := [vI (ko X1 u2 j)]) (r := []) X E (s5_endOf _ S2 hi hN (bx_tl hX q5).1) lkX5_endOf mlX2_31 lmX5_endOf lpX5_endOf ⟨Nat.le_of_ble_eq_true rfl, Nat.le_of_ble_eq_true rfl⟩ ⟨Nat.le_of_ble_eq_true rfl, Nat.le_of_ble_eq_true rfl⟩ rfl ⟨_, (S2 i hi).2.1⟩ (Nat.le_of_ble_eq_true rfl) (dk rfl) ?_
      rintro _ rfl
      iterate 2 refine fst1_ok X (dk rfl) rfl ?_
      refine br_ok X (dk rfl) rfl (show ((98 : Nat) : Int) + (-46) = ((52 : Nat) : Int) from rfl) (fun _ => ?_) (fun q => absurd trivial q)
      refine WS.sel (l' := [(7, vI (ps.length + u)), (6, vI (ko X1 u2 (j + 1))), (5, vI (ko X1 u1 (j + 1))), (4, vI (ga X1 u1)), (1, .ref (B i)), (0, .ref pb)]) [7, 6, 5, 4, 1, 0] (by rw [show vI (ps.length + u) = Value.int (nI (ps.length + (u + 1)) + Int32.ofInt (-1)) from congrArg Value.int (nI_dec _).symm]; rfl) ?_
      exact ih (j + 1) _ _ _ (by omega) S2 n1 n2 (by rw [List.length_set]; exact g3) (by rw [List.take_set, List.set_eq_of_length_le (by rw [List.length_take]; omega)]; exact g4) n5 (by rw [List.length_set]; exact g6) (by rw [List.take_set, List.set_eq_of_length_le (by rw [List.length_take]; omega)]; exact g7) n8 (f1.trans f2) _ rfl
  iterate 2 refine fst1_ok X (dk rfl) rfl ?_
  refine callVR_ok (ci := 7) (T := TX5) (N := 3) (av := [vI u1]) (r := []) X E (s5_letterAt h S hi (nI u1)) lkX5_letterAt mlX2_22 lmX5_letterAt lpX5_letterAt ⟨Nat.le_of_ble_eq_true rfl, Nat.le_of_ble_eq_true rfl⟩ ⟨Nat.le_of_ble_eq_true rfl, Nat.le_of_ble_eq_true rfl⟩ rfl ⟨_, (S i hi).2.1⟩ (Nat.le_of_ble_eq_true rfl) (dk rfl) ?_
  rintro _ rfl
  rw [hN.lt hgx (by omega)]
  refine callNR_ok (av := [vI (gl X1 u1)]) (r := []) X E (s6_partsOf h hyx) lkX6_partsOf mnX2_28 lsX6_partsOf ⟨Nat.le_of_ble_eq_true rfl, Nat.le_of_ble_eq_true rfl⟩ ⟨Nat.le_of_ble_eq_true rfl, Nat.le_of_ble_eq_true rfl⟩ (Nat.le_of_ble_eq_true rfl) (dk rfl) ?_
  rintro _ rfl
  rw [show pF (gl X1 u1) = ga X1 u1 from rfl]
  iterate 2 refine fst1_ok X (dk rfl) rfl ?_
  refine getf_ok X flX2_18 (dk rfl) hw3 rfl ?_
  refine br_ok X (dk rfl) rfl (show ((14 : Nat) : Int) + 16 = ((30 : Nat) : Int) from rfl) (fun q => absurd q (nI_pos (by omega))) (fun _ => ?_)
  refine fst1_ok X (dk rfl) rfl ?_
  refine getf_ok X flX2_18 (dk rfl) hw3 rfl ?_
  iterate 3 refine fst1_ok X (dk rfl) rfl ?_
  rw [nI_add]
  refine br_ok X (dk rfl) rfl (show ((27 : Nat) : Int) + 4 = ((31 : Nat) : Int) from rfl) (fun _ => ?_) (fun q => absurd (by rw [show (Int16.ofInt 128).toInt32 = nI 128 by decide +kernel]; exact (nI_leI (by omega) (by omega)).mpr (by omega)) q)
  iterate 9 refine fst1_ok X (dk rfl) rfl ?_
  refine getf_ok X flX2_18 (dk rfl) hw3 rfl ?_
  iterate 5 refine fst1_ok X (dk rfl) rfl ?_
  have k0 : ∀ z : Nat, Value.int (nI z + Int32.ofInt 1) = vI (ko X1 z 0) := fun z => congrArg Value.int (by rw [nI_1', nI_add]; rfl)
  rcases Nat.eq_zero_or_pos (ga X1 u1) with hz | hz
  · refine WS.sel (l' := [(7, .int (nI ps.length + nI (ga X1 u1) - Int32.ofInt 1)), (6, vI (ko X1 u2 0)), (5, vI (ko X1 u1 0)), (4, vI (ga X1 u1)), (1, .ref (B i)), (0, .ref pb)]) [7, 6, 5, 4, 1, 0] (by rw [← k0, ← k0]; rfl) ?_
    refine fin h xs ys _ _ _ ?_ hw3 x1 x2 x3 y1 y2 y3 (fun t ht => absurd ht (by omega)) (FrP.rf h) _ rfl
    rw [hz, nI_add, Nat.add_zero]
    exact sub_lt (by omega)
  · refine WS.sel (l' := [(7, vI (ps.length + (ga X1 u1 - 1))), (6, vI (ko X1 u2 0)), (5, vI (ko X1 u1 0)), (4, vI (ga X1 u1)), (1, .ref (B i)), (0, .ref pb)]) [7, 6, 5, 4, 1, 0] (by rw [← k0, ← k0, show vI (ps.length + (ga X1 u1 - 1)) = Value.int (nI ps.length + nI (ga X1 u1) - Int32.ofInt 1) from congrArg Value.int (by rw [nI_add, nI_1', nI_sub (by omega), Nat.add_sub_assoc hz])]; rfl) ?_
    exact loop (ga X1 u1 - 1) 0 h xs ys (by omega) S hw3 x1 x2 x3 y1 y2 y3 (fun t ht => absurd ht (Nat.not_lt_zero t)) (FrP.rf h) _ rfl
set_option maxHeartbeats 16000000 in
theorem s4_lookedUp (h : AH) {X1 : List Nat} {Sx : SS} (T : STP B Q P h F X1 Sx ps tk en) (hX : BX X1) (hS : S1 X1 Sx) {u1 : Nat} (hu1 : u1 < X1.length) : CT la D cA B0 pa yX4_lookedUp cX4_lookedUp 5 (some .int) (rmD 1 0 0) [.ref (P 4), vI u1] h (RP (vI (dp X1 Sx u1)) h) := by
  refine CT_of (by decide +kernel) (Nat.le_of_ble_eq_true rfl) ?_
  intro p e s m args below meth c X E hr hlk hnm
  have dk : ∀ {pc : Nat} {q : Instr × Nat}, lkd DX4_lookedUp pc = some q → decode cX4_lookedUp pc = .ok q := lkd_ok DX4_lookedUp_ok
  obtain ⟨t1, t2, t3, ⟨row, r1, r2, r3⟩, t5⟩ := id T
  have hX32 := hX.2.2
  have loop : ∀ (u k z : Nat), u + k = 8 → z < X1.length → dpF X1 Sx u z = dp X1 Sx u1 → ∀ l : List (Nat × Value), lsel l [3, 2, 0] = [(3, vI k), (2, vI z), (0, .ref (P 4))] → WR p la e (rmD 1 0 0) s m args below meth c D cA B0 5 (RP (vI (dp X1 Sx u1)) h) 4 l [] h 0 0 := by
    intro u
    induction u with
    | zero =>
      intro k z hk hz hd l hl
      have hk8 : k = 8 := by omega
      subst hk8
      have ez : z = dp X1 Sx u1 := hd
      refine WS.sel [3, 2, 0] hl ?_
      iterate 2 refine fst1_ok X (dk rfl) rfl ?_
      refine br_ok X (dk rfl) rfl (show ((7 : Nat) : Int) + 48 = ((55 : Nat) : Int) from rfl) (fun _ => ?_) (fun q => absurd (by rw [nI_8']; exact Int32.le_refl _) q)
      refine fst1_ok X (dk rfl) rfl ?_
      exact reti_ok X hr hlk rfl (dk rfl) (⟨by rw [← ez]; rfl, rfl⟩) (Nat.le_of_ble_eq_true rfl) (Nat.le_of_ble_eq_true rfl)
    | succ u ih =>
      intro k z hk hz hd l hl
      have hgz := gl_get hz
      have hok := gl_ok hX hz
      have hyx := hok.lt
      rw [dpF] at hd
      refine WS.sel [3, 2, 0] hl ?_
      iterate 2 refine fst1_ok X (dk rfl) rfl ?_
      refine br_ok X (dk rfl) rfl (show ((7 : Nat) : Int) + 48 = ((55 : Nat) : Int) from rfl) (fun q => absurd q (by rw [nI_8']; exact nI_ge (by omega) (by omega))) (fun _ => ?_)
      refine fst1_ok X (dk rfl) rfl ?_
      refine getf_ok X flX4_14 (dk rfl) t3 rfl ?_
      refine fst1_ok X (dk rfl) rfl ?_
      refine callVR_ok (ci := 7) (T := TX5) (N := 3) (av := [vI z]) (r := []) X E (s5_letterAt h t1 (i := 50) (by omega) (nI z)) lkX5_letterAt mlX4_83 lmX5_letterAt lpX5_letterAt ⟨Nat.le_of_ble_eq_true rfl, Nat.le_of_ble_eq_true rfl⟩ ⟨Nat.le_of_ble_eq_true rfl, Nat.le_of_ble_eq_true rfl⟩ rfl ⟨_, (t1 50 (by omega)).2.1⟩ (Nat.le_of_ble_eq_true rfl) (dk rfl) ?_
      rintro _ rfl
      rw [t2.lt hgz (by omega)]
      iterate 2 refine fst1_ok X (dk rfl) rfl ?_
      refine callNR_ok (av := [vI (gl X1 z)]) (r := []) X E (s6_isName h (x := gl X1 z) (by omega)) lkX6_isName mnX4_86 lsX6_isName ⟨Nat.le_of_ble_eq_true rfl, Nat.le_of_ble_eq_true rfl⟩ ⟨Nat.le_of_ble_eq_true rfl, Nat.le_of_ble_eq_true rfl⟩ (Nat.le_of_ble_eq_true rfl) (dk rfl) ?_
      rintro _ rfl
      by_cases h8 : gl X1 z < 8
      · rw [decide_eq_true h8]
        rw [if_pos (by omega)] at hd
        refine br_ok X (dk rfl) rfl (show ((25 : Nat) : Int) + 14 = ((39 : Nat) : Int) from rfl) (fun q => absurd q bI_t) (fun _ => ?_)
        refine fst1_ok X (dk rfl) rfl ?_
        refine getf_ok X flX4_20 (dk rfl) t3 rfl ?_
        refine fst1_ok X (dk rfl) rfl ?_
        refine ald7v_ok X (dk rfl) r1 (nI_pos (by omega)) (by rw [nI_clamp (by omega)]; exact r3 _ h8) ?_
        refine fst1_ok X (dk rfl) rfl ?_
        cases es : Sx (gl X1 z) with
        | none =>
          rw [es] at hd
          have ez : z = dp X1 Sx u1 := hd
          rw [pI_none]
          refine br_ok X (dk rfl) rfl (show ((36 : Nat) : Int) + 5 = ((41 : Nat) : Int) from rfl) (fun q => absurd rfl q) (fun _ => ?_)
          refine fst1_ok X (dk rfl) rfl ?_
          exact reti_ok X hr hlk rfl (dk rfl) (⟨by rw [← ez]; rfl, rfl⟩) (Nat.le_of_ble_eq_true rfl) (Nat.le_of_ble_eq_true rfl)
        | some q =>
          rw [es] at hd
          have hql := (hS _ q es).2.1
          rw [pI_some]
          refine br_ok X (dk rfl) rfl (show ((36 : Nat) : Int) + 5 = ((41 : Nat) : Int) from rfl) (fun _ => ?_) (fun q => absurd (nI_m1 (by omega)) q)
          refine fst1_ok X (dk rfl) rfl ?_
          refine getf_ok X flX4_20 (dk rfl) t3 rfl ?_
          refine fst1_ok X (dk rfl) rfl ?_
          refine ald7v_ok X (dk rfl) r1 (nI_pos (by omega)) (by rw [nI_clamp (by omega)]; exact r3 _ h8) ?_
          rw [es, pI_some]
          iterate 2 refine fst1_ok X (dk rfl) rfl ?_
          refine br_ok X (dk rfl) rfl (show ((52 : Nat) : Int) + (-48) = ((4 : Nat) : Int) from rfl) (fun _ => ?_) (fun q => absurd trivial q)
          have f2 : Value.int (nI k + Int32.ofInt 1) = vI (k + 1) := congrArg Value.int (by rw [nI_1', nI_add])
          refine WS.sel (l' := [(3, vI (k + 1)), (2, vI q), (0, .ref (P 4))]) [3, 2, 0] (by rw [← f2]; rfl) ?_
          exact ih (k + 1) q (by omega) hql hd _ rfl
      · rw [decide_eq_false h8]
        rw [if_neg (by rcases hok with z | z <;> omega)] at hd
        have ez : z = dp X1 Sx u1 := hd
        refine br_ok X (dk rfl) rfl (show ((25 : Nat) : Int) + 14 = ((39 : Nat) : Int) from rfl) (fun _ => ?_) (fun q => absurd bI_f' q)
        refine fst1_ok X (dk rfl) rfl ?_
        exact reti_ok X hr hlk rfl (dk rfl) (⟨by rw [← ez]; rfl, rfl⟩) (Nat.le_of_ble_eq_true rfl) (Nat.le_of_ble_eq_true rfl)
  iterate 4 refine fst1_ok X (dk rfl) rfl ?_
  refine loop 8 0 u1 rfl hu1 ?_ _ rfl
  exact dpF_ext hS 8 9 u1 (fun z => by have := gl_8 hX hu1 z; omega)
/-- a method of the steps: what stands for names afterwards, which pairs wait, the counters -/
def SQ (B Q P : Nat → Nat) (F : Nat → TC) (X : List Nat) (S : SS) (ps : PL2) (tk en : Int32) (h : AH) (v : Option Value) (h' : AH) : Prop := v = none ∧ STP B Q P h' F X S ps tk en ∧ FrU B Q (LSt P Q) h h'
set_option maxHeartbeats 16000000 in
theorem s4_joinNames (h : AH) (Y : LYO B Q) {X1 : List Nat} {Sx : SS} (T : STP B Q P h F X1 Sx ps tk en) (hX : BX X1) (hS : S1 X1 Sx) {u1 u2 : Nat} (hu1 : u1 < X1.length) (hu2 : u2 < X1.length) (hn1 : gl X1 u1 < 8) (hn2 : gl X1 u2 < 8) : CT la D cA B0 pa yX4_joinNames cX4_joinNames 5 none (rmD 1 0 0) [.ref (P 4), vI u1, vI u2] h (SQ B Q P F X1 (if gl X1 u2 < gl X1 u1 then upS Sx (gl X1 u1) u2 else if gl X1 u1 < gl X1 u2 then upS Sx (gl X1 u2) u1 else Sx) ps tk en h) := by
  refine CT_of (by decide +kernel) (Nat.le_of_ble_eq_true rfl) ?_
  intro p e s m args below meth c X E hr hlk hnm
  have dk : ∀ {pc : Nat} {q : Instr × Nat}, lkd DX4_joinNames pc = some q → decode cX4_joinNames pc = .ok q := lkd_ok DX4_joinNames_ok
  obtain ⟨t1, t2, t3, -, t5⟩ := id T
  have hX32 := hX.2.2
  have hg1 := gl_get hu1
  have hg2 := gl_get hu2
  have hL : Q 60 ∈ LSt P Q := List.mem_cons_of_mem _ List.mem_cons_self
  refine fst1_ok X (dk rfl) rfl ?_
  refine getf_ok X flX4_14 (dk rfl) t3 rfl ?_
  refine fst1_ok X (dk rfl) rfl ?_
  refine callVR_ok (ci := 7) (T := TX5) (N := 3) (av := [vI u1]) (r := []) X E (s5_letterAt h t1 (i := 50) (by omega) (nI u1)) lkX5_letterAt mlX4_83 lmX5_letterAt lpX5_letterAt ⟨Nat.le_of_ble_eq_true rfl, Nat.le_of_ble_eq_true rfl⟩ ⟨Nat.le_of_ble_eq_true rfl, Nat.le_of_ble_eq_true rfl⟩ rfl ⟨_, (t1 50 (by omega)).2.1⟩ (Nat.le_of_ble_eq_true rfl) (dk rfl) ?_
  rintro _ rfl
  rw [t2.lt hg1 (by omega)]
  iterate 2 refine fst1_ok X (dk rfl) rfl ?_
  refine getf_ok X flX4_14 (dk rfl) t3 rfl ?_
  refine fst1_ok X (dk rfl) rfl ?_
  refine callVR_ok (ci := 7) (T := TX5) (N := 3) (av := [vI u2]) (r := []) X E (s5_letterAt h t1 (i := 50) (by omega) (nI u2)) lkX5_letterAt mlX4_83 lmX5_letterAt lpX5_letterAt ⟨Nat.le_of_ble_eq_true rfl, Nat.le_of_ble_eq_true rfl⟩ ⟨Nat.le_of_ble_eq_true rfl, Nat.le_of_ble_eq_true rfl⟩ rfl ⟨_, (t1 50 (by omega)).2.1⟩ (Nat.le_of_ble_eq_true rfl) (dk rfl) ?_
  rintro _ rfl
  rw [t2.lt hg2 (by omega)]
  iterate 2 refine fst1_ok X (dk rfl) rfl ?_
  refine callNR_ok (av := [vI (gl X1 u1)]) (r := []) X E (s6_isName h (x := gl X1 u1) (by omega)) lkX6_isName mnX4_86 lsX6_isName ⟨Nat.le_of_ble_eq_true rfl, Nat.le_of_ble_eq_true rfl⟩ ⟨Nat.le_of_ble_eq_true rfl, Nat.le_of_ble_eq_true rfl⟩ (Nat.le_of_ble_eq_true rfl) (dk rfl) ?_
  rintro _ rfl
  rw [decide_eq_true hn1]
  refine br_ok X (dk rfl) rfl (show ((23 : Nat) : Int) + 19 = ((42 : Nat) : Int) from rfl) (fun q => absurd q bI_t) (fun _ => ?_)
  iterate 2 refine fst1_ok X (dk rfl) rfl ?_
  by_cases c1 : gl X1 u2 < gl X1 u1
  · obtain ⟨row, r1, r2, r3, T2⟩ := T.row Y (x := gl X1 u1) (t := u2) hn1
    refine br_ok X (dk rfl) rfl (show ((29 : Nat) : Int) + 13 = ((42 : Nat) : Int) from rfl) (fun q => absurd q (Int32.not_le.mpr ((nI_ltI (by omega) (by omega)).mpr c1))) (fun _ => ?_)
    refine fst1_ok X (dk rfl) rfl ?_
    refine getf_ok X flX4_20 (dk rfl) t3 rfl ?_
    iterate 2 refine fst1_ok X (dk rfl) rfl ?_
    refine ast7_ok X (dk rfl) r1 (nI_pos (by omega)) (by rw [nI_clamp (by omega)]; omega) ?_
    rw [nI_clamp (by omega)]
    refine br_ok X (dk rfl) rfl (show ((39 : Nat) : Int) + 25 = ((64 : Nat) : Int) from rfl) (fun _ => ?_) (fun q => absurd trivial q)
    exact retv_ok X hr hlk (dk rfl) (⟨rfl, by rw [if_pos c1]; exact T2, (FrU.rf h).set hL _⟩) (Nat.le_of_ble_eq_true rfl) (Nat.le_of_ble_eq_true rfl)
  · refine br_ok X (dk rfl) rfl (show ((29 : Nat) : Int) + 13 = ((42 : Nat) : Int) from rfl) (fun _ => ?_) (fun q => absurd ((nI_leI (by omega) (by omega)).mpr (by omega)) q)
    refine fst1_ok X (dk rfl) rfl ?_
    refine callNR_ok (av := [vI (gl X1 u2)]) (r := []) X E (s6_isName h (x := gl X1 u2) (by omega)) lkX6_isName mnX4_86 lsX6_isName ⟨Nat.le_of_ble_eq_true rfl, Nat.le_of_ble_eq_true rfl⟩ ⟨Nat.le_of_ble_eq_true rfl, Nat.le_of_ble_eq_true rfl⟩ (Nat.le_of_ble_eq_true rfl) (dk rfl) ?_
    rintro _ rfl
    rw [decide_eq_true hn2]
    refine br_ok X (dk rfl) rfl (show ((47 : Nat) : Int) + 17 = ((64 : Nat) : Int) from rfl) (fun q => absurd q bI_t) (fun _ => ?_)
    iterate 2 refine fst1_ok X (dk rfl) rfl ?_
    by_cases c2 : gl X1 u1 < gl X1 u2
    · obtain ⟨row, r1, r2, r3, T2⟩ := T.row Y (x := gl X1 u2) (t := u1) hn2
      refine br_ok X (dk rfl) rfl (show ((53 : Nat) : Int) + 11 = ((64 : Nat) : Int) from rfl) (fun q => absurd q (Int32.not_le.mpr ((nI_ltI (by omega) (by omega)).mpr c2))) (fun _ => ?_)
      refine fst1_ok X (dk rfl) rfl ?_
      refine getf_ok X flX4_20 (dk rfl) t3 rfl ?_
      iterate 2 refine fst1_ok X (dk rfl) rfl ?_
      refine ast7_ok X (dk rfl) r1 (nI_pos (by omega)) (by rw [nI_clamp (by omega)]; omega) ?_
      rw [nI_clamp (by omega)]
      exact retv_ok X hr hlk (dk rfl) (⟨rfl, by rw [if_neg c1, if_pos c2]; exact T2, (FrU.rf h).set hL _⟩) (Nat.le_of_ble_eq_true rfl) (Nat.le_of_ble_eq_true rfl)
    · refine br_ok X (dk rfl) rfl (show ((53 : Nat) : Int) + 11 = ((64 : Nat) : Int) from rfl) (fun _ => ?_) (fun q => absurd ((nI_leI (by omega) (by omega)).mpr (by omega)) q)
      exact retv_ok X hr hlk (dk rfl) (⟨rfl, by rw [if_neg c1, if_neg c2]; exact T, FrU.rf h⟩) (Nat.le_of_ble_eq_true rfl) (Nat.le_of_ble_eq_true rfl)
set_option maxHeartbeats 32000000 in
theorem s4_standFor (h : AH) (Y : LYO B Q) {n1 : Nat} {X1 : List Nat} {Sx : SS} (hY : BY X1 n1) (T : STP B Q P h F X1 Sx ps tk en) (hX : BX X1) (hS : S1 X1 Sx) {x t : Nat} (hx : x < 8) (ht : t < X1.length) : CT la D cA B0 pa yX4_standFor cX4_standFor 6 none (rmD 2 0 0) [.ref (P 4), vI x, vI t] h (SQ B Q P F X1 (if (isWi (smO X1 Sx) x (sub' X1 t)) then Sx else upS Sx x t) ps tk (if (isWi (smO X1 Sx) x (sub' X1 t)) then nI 2 else en) h) := by
  refine CT_of (by decide +kernel) (Nat.le_of_ble_eq_true rfl) ?_
  intro p e s m args below meth c X E hr hlk hnm
  have dk : ∀ {pc : Nat} {q : Instr × Nat}, lkd DX4_standFor pc = some q → decode cX4_standFor pc = .ok q := lkd_ok DX4_standFor_ok
  obtain ⟨t1, t2, t3, ⟨row, r1, r2, r3⟩, t5⟩ := id T
  have hX32 := hX.2.2
  obtain ⟨e1, e2, e3⟩ := bx_tl hX ht
  have hTT := smO_TT hY hS
  have hs0 : namesN (sub' X1 t) < 256 := namesN_lt (sub_TW hX ht).2
  have hL : Q 60 ∈ LSt P Q := List.mem_cons_of_mem _ List.mem_cons_self
  have hL4 : P 4 ∈ LSt P Q := List.mem_cons_self
  have last : ∀ l : List (Nat × Value), lsel l [3, 2, 1, 0] = [(3, vI (wAll (smO X1 Sx) (namesN (sub' X1 t)) 8)), (2, vI t), (1, vI x), (0, .ref (P 4))] → WR p la e (rmD 2 0 0) s m args below meth c D cA B0 6 (SQ B Q P F X1 (if (isWi (smO X1 Sx) x (sub' X1 t)) then Sx else upS Sx x t) ps tk (if (isWi (smO X1 Sx) x (sub' X1 t)) then nI 2 else en) h) 101 l [] h 0 0 := by
    intro l hl
    have h256 := wAll_lt hTT hs0 8
    refine WS.sel [3, 2, 1, 0] hl ?_
    iterate 6 refine fst1_ok X (dk rfl) rfl ?_
    rw [bit8 h256 hx]
    by_cases hb : wAll (smO X1 Sx) (namesN (sub' X1 t)) 8 >>> x % 2 = 1
    · have hw : (isWi (smO X1 Sx) x (sub' X1 t)) = true := decide_eq_true hb
      rw [hb, hw]
      refine br_ok X (dk rfl) rfl (show ((107 : Nat) : Int) + 11 = ((118 : Nat) : Int) from rfl) (fun q => absurd (by decide) q) (fun _ => ?_)
      iterate 2 refine fst1_ok X (dk rfl) rfl ?_
      refine putf_ok X flX4_56 ftX4_4 (Or.inl rfl) rfl rfl (dk rfl) t3 (Nat.le_of_ble_eq_true rfl) ?_
      refine br_ok X (dk rfl) rfl (show ((115 : Nat) : Int) + 17 = ((132 : Nat) : Int) from rfl) (fun _ => ?_) (fun q => absurd trivial q)
      exact retv_ok X hr hlk (dk rfl) (⟨rfl, by rw [if_pos rfl, if_pos rfl, show nI 2 = Int32.ofInt 2 from nI_2.symm]; exact T.fld _ _, (FrU.rf h).set hL4 _⟩) (Nat.le_of_ble_eq_true rfl) (Nat.le_of_ble_eq_true rfl)
    · have hw : (isWi (smO X1 Sx) x (sub' X1 t)) = false := decide_eq_false hb
      have h0 : wAll (smO X1 Sx) (namesN (sub' X1 t)) 8 >>> x % 2 = 0 := by
        have := Nat.mod_two_eq_zero_or_one (wAll (smO X1 Sx) (namesN (sub' X1 t)) 8 >>> x)
        omega
      rw [h0, hw]
      refine br_ok X (dk rfl) rfl (show ((107 : Nat) : Int) + 11 = ((118 : Nat) : Int) from rfl) (fun _ => ?_) (fun q => absurd (by decide) q)
      refine fst1_ok X (dk rfl) rfl ?_
      refine callNR_ok (av := [vI x]) (r := []) X E (s6_isName h (x := x) (by omega)) lkX6_isName mnX4_86 lsX6_isName ⟨Nat.le_of_ble_eq_true rfl, Nat.le_of_ble_eq_true rfl⟩ ⟨Nat.le_of_ble_eq_true rfl, Nat.le_of_ble_eq_true rfl⟩ (Nat.le_of_ble_eq_true rfl) (dk rfl) ?_
      rintro _ rfl
      rw [decide_eq_true hx]
      refine br_ok X (dk rfl) rfl (show ((122 : Nat) : Int) + 10 = ((132 : Nat) : Int) from rfl) (fun q => absurd q bI_t) (fun _ => ?_)
      refine fst1_ok X (dk rfl) rfl ?_
      refine getf_ok X flX4_20 (dk rfl) t3 rfl ?_
      iterate 2 refine fst1_ok X (dk rfl) rfl ?_
      obtain ⟨row2, q1, q2, q3, T2⟩ := T.row Y (x := x) (t := t) hx
      refine ast7_ok X (dk rfl) q1 (nI_pos (by omega)) (by rw [nI_clamp (by omega)]; omega) ?_
      rw [nI_clamp (by omega)]
      exact retv_ok X hr hlk (dk rfl) (⟨rfl, by rw [if_neg (by decide), if_neg (by decide)]; exact T2, (FrU.rf h).set hL _⟩) (Nat.le_of_ble_eq_true rfl) (Nat.le_of_ble_eq_true rfl)
  have outer : ∀ (u k : Nat), u + k = 8 → ∀ l : List (Nat × Value), lsel l [4, 3, 2, 1, 0] = [(4, vI k), (3, vI (wAll (smO X1 Sx) (namesN (sub' X1 t)) k)), (2, vI t), (1, vI x), (0, .ref (P 4))] → WR p la e (rmD 2 0 0) s m args below meth c D cA B0 6 (SQ B Q P F X1 (if (isWi (smO X1 Sx) x (sub' X1 t)) then Sx else upS Sx x t) ps tk (if (isWi (smO X1 Sx) x (sub' X1 t)) then nI 2 else en) h) 20 l [] h 0 0 := by
    intro u
    induction u with
    | zero =>
      intro k hk l hl
      have hk8 : k = 8 := by omega
      subst hk8
      refine WS.sel [4, 3, 2, 1, 0] hl ?_
      iterate 2 refine fst1_ok X (dk rfl) rfl ?_
      refine br_ok X (dk rfl) rfl (show ((24 : Nat) : Int) + 77 = ((101 : Nat) : Int) from rfl) (fun _ => ?_) (fun q => absurd (by rw [nI_8']; exact Int32.le_refl _) q)
      exact last _ rfl
    | succ u ih =>
      intro k hk l hl
      refine WS.sel [4, 3, 2, 1, 0] hl ?_
      iterate 2 refine fst1_ok X (dk rfl) rfl ?_
      refine br_ok X (dk rfl) rfl (show ((24 : Nat) : Int) + 77 = ((101 : Nat) : Int) from rfl) (fun q => absurd q (by rw [nI_8']; exact nI_ge (by omega) (by omega))) (fun _ => ?_)
      have fk : Value.int (nI k + Int32.ofInt 1) = vI (k + 1) := congrArg Value.int (by rw [nI_1', nI_add])
      have hsk := wAll_lt hTT hs0 k
      have inner : ∀ (w n : Nat), w + n = 8 → ∀ l : List (Nat × Value), lsel l [5, 4, 3, 2, 1, 0] = [(5, vI n), (4, vI k), (3, vI (wRow (smO X1 Sx) (wAll (smO X1 Sx) (namesN (sub' X1 t)) k) n)), (2, vI t), (1, vI x), (0, .ref (P 4))] → WR p la e (rmD 2 0 0) s m args below meth c D cA B0 6 (SQ B Q P F X1 (if (isWi (smO X1 Sx) x (sub' X1 t)) then Sx else upS Sx x t) ps tk (if (isWi (smO X1 Sx) x (sub' X1 t)) then nI 2 else en) h) 30 l [] h 0 0 := by
        intro w
        induction w with
        | zero =>
          intro n hn l hl
          have hn8 : n = 8 := by omega
          subst hn8
          refine WS.sel [5, 4, 3, 2, 1, 0] hl ?_
          iterate 2 refine fst1_ok X (dk rfl) rfl ?_
          refine br_ok X (dk rfl) rfl (show ((34 : Nat) : Int) + 61 = ((95 : Nat) : Int) from rfl) (fun _ => ?_) (fun q => absurd (by rw [nI_8']; exact Int32.le_refl _) q)
          refine fst1_ok X (dk rfl) rfl ?_
          refine br_ok X (dk rfl) rfl (show ((98 : Nat) : Int) + (-78) = ((20 : Nat) : Int) from rfl) (fun _ => ?_) (fun q => absurd trivial q)
          refine WS.sel (l' := [(4, vI (k + 1)), (3, vI (wAll (smO X1 Sx) (namesN (sub' X1 t)) (k + 1))), (2, vI t), (1, vI x), (0, .ref (P 4))]) [4, 3, 2, 1, 0] (by rw [← fk]; rfl) ?_
          exact ih (k + 1) (by omega) _ rfl
        | succ w ihw =>
          intro n hn l hl
          have hsn := wRow_lt hTT hsk n
          have fn : Value.int (nI n + Int32.ofInt 1) = vI (n + 1) := congrArg Value.int (by rw [nI_1', nI_add])
          have nxt : ∀ z : Nat, wStep (smO X1 Sx) (wRow (smO X1 Sx) (wAll (smO X1 Sx) (namesN (sub' X1 t)) k) n) n = z → ∀ l : List (Nat × Value), lsel l [5, 4, 3, 2, 1, 0] = [(5, vI n), (4, vI k), (3, vI z), (2, vI t), (1, vI x), (0, .ref (P 4))] → WR p la e (rmD 2 0 0) s m args below meth c D cA B0 6 (SQ B Q P F X1 (if (isWi (smO X1 Sx) x (sub' X1 t)) then Sx else upS Sx x t) ps tk (if (isWi (smO X1 Sx) x (sub' X1 t)) then nI 2 else en) h) 89 l [] h 0 0 := by
            intro z hz l hl
            refine WS.sel [5, 4, 3, 2, 1, 0] hl ?_
            refine fst1_ok X (dk rfl) rfl ?_
            refine br_ok X (dk rfl) rfl (show ((92 : Nat) : Int) + (-62) = ((30 : Nat) : Int) from rfl) (fun _ => ?_) (fun q => absurd trivial q)
            refine WS.sel (l' := [(5, vI (n + 1)), (4, vI k), (3, vI (wRow (smO X1 Sx) (wAll (smO X1 Sx) (namesN (sub' X1 t)) k) (n + 1))), (2, vI t), (1, vI x), (0, .ref (P 4))]) [5, 4, 3, 2, 1, 0] (by rw [← fn, show wRow (smO X1 Sx) (wAll (smO X1 Sx) (namesN (sub' X1 t)) k) (n + 1) = z from hz]; rfl) ?_
            exact ihw (n + 1) (by omega) _ rfl
          refine WS.sel [5, 4, 3, 2, 1, 0] hl ?_
          iterate 2 refine fst1_ok X (dk rfl) rfl ?_
          refine br_ok X (dk rfl) rfl (show ((34 : Nat) : Int) + 61 = ((95 : Nat) : Int) from rfl) (fun q => absurd q (by rw [nI_8']; exact nI_ge (by omega) (by omega))) (fun _ => ?_)
          iterate 6 refine fst1_ok X (dk rfl) rfl ?_
          rw [bit8 hsn (by omega)]
          unfold wStep at nxt
          by_cases hb : wRow (smO X1 Sx) (wAll (smO X1 Sx) (namesN (sub' X1 t)) k) n >>> n % 2 = 1
          · rw [hb]
            rw [if_pos hb, smO_get X1 Sx (show n < 8 by omega)] at nxt
            refine br_ok X (dk rfl) rfl (show ((44 : Nat) : Int) + 45 = ((89 : Nat) : Int) from rfl) (fun q => absurd (by decide) q) (fun _ => ?_)
            refine fst1_ok X (dk rfl) rfl ?_
            refine getf_ok X flX4_20 (dk rfl) t3 rfl ?_
            refine fst1_ok X (dk rfl) rfl ?_
            refine ald7v_ok X (dk rfl) r1 (nI_pos (by omega)) (by rw [nI_clamp (by omega)]; exact r3 n (by omega)) ?_
            refine fst1_ok X (dk rfl) rfl ?_
            cases es : Sx n with
            | none =>
              rw [es] at nxt
              rw [pI_none]
              refine br_ok X (dk rfl) rfl (show ((55 : Nat) : Int) + 34 = ((89 : Nat) : Int) from rfl) (fun _ => ?_) (fun q => absurd rfl q)
              exact nxt _ rfl _ rfl
            | some q =>
              rw [es] at nxt
              have hql := (hS n q es).2.1
              obtain ⟨g1, g2, g3⟩ := bx_tl hX hql
              rw [pI_some]
              refine br_ok X (dk rfl) rfl (show ((55 : Nat) : Int) + 34 = ((89 : Nat) : Int) from rfl) (fun q => absurd q (nI_m1 (by omega))) (fun _ => ?_)
              iterate 2 refine fst1_ok X (dk rfl) rfl ?_
              refine getf_ok X flX4_14 (dk rfl) t3 rfl ?_
              refine fst1_ok X (dk rfl) rfl ?_
              refine getf_ok X flX4_20 (dk rfl) t3 rfl ?_
              refine fst1_ok X (dk rfl) rfl ?_
              refine ald7v_ok X (dk rfl) r1 (nI_pos (by omega)) (by rw [nI_clamp (by omega)]; exact r3 n (by omega)) ?_
              rw [es, pI_some]
              refine fst1_ok X (dk rfl) rfl ?_
              refine getf_ok X flX4_14 (dk rfl) t3 rfl ?_
              refine fst1_ok X (dk rfl) rfl ?_
              refine getf_ok X flX4_20 (dk rfl) t3 rfl ?_
              refine fst1_ok X (dk rfl) rfl ?_
              refine ald7v_ok X (dk rfl) r1 (nI_pos (by omega)) (by rw [nI_clamp (by omega)]; exact r3 n (by omega)) ?_
              rw [es, pI_some]
              refine callVR_ok (ci := 7) (T := TX5) (N := 3) (av := [vI q]) (r := [vI q, .ref (B 50), vI (wRow (smO X1 Sx) (wAll (smO X1 Sx) (namesN (sub' X1 t)) k) n)]) X E (s5_endOf h t1 (i := 50) (by omega) t2 g1) lkX5_endOf mlX4_100 lmX5_endOf lpX5_endOf ⟨Nat.le_of_ble_eq_true rfl, Nat.le_of_ble_eq_true rfl⟩ ⟨Nat.le_of_ble_eq_true rfl, Nat.le_of_ble_eq_true rfl⟩ rfl ⟨_, (t1 50 (by omega)).2.1⟩ (Nat.le_of_ble_eq_true rfl) (dk rfl) ?_
              rintro _ rfl
              refine callVR_ok (ci := 7) (T := TX5) (N := 3) (av := [vI q, vI (q + tl X1 q)]) (r := [vI (wRow (smO X1 Sx) (wAll (smO X1 Sx) (namesN (sub' X1 t)) k) n)]) X E (s5_namesIn h t1 (i := 50) (by omega) t2 (a := q) (b := q + tl X1 q) (by omega) g3) lkX5_namesIn mlX4_103 lmX5_namesIn lpX5_namesIn ⟨Nat.le_of_ble_eq_true rfl, Nat.le_of_ble_eq_true rfl⟩ ⟨Nat.le_of_ble_eq_true rfl, Nat.le_of_ble_eq_true rfl⟩ rfl ⟨_, (t1 50 (by omega)).2.1⟩ (Nat.le_of_ble_eq_true rfl) (dk rfl) ?_
              rintro _ rfl
              rw [Nat.add_sub_cancel_left, show (X1.drop q).take (tl X1 q) = sub' X1 q from rfl]
              iterate 2 refine fst1_ok X (dk rfl) rfl ?_
              rw [nI_or]
              exact nxt _ rfl _ rfl
          · have h0 : wRow (smO X1 Sx) (wAll (smO X1 Sx) (namesN (sub' X1 t)) k) n >>> n % 2 = 0 := by
              have := Nat.mod_two_eq_zero_or_one (wRow (smO X1 Sx) (wAll (smO X1 Sx) (namesN (sub' X1 t)) k) n >>> n)
              omega
            rw [h0]
            rw [if_neg hb] at nxt
            refine br_ok X (dk rfl) rfl (show ((44 : Nat) : Int) + 45 = ((89 : Nat) : Int) from rfl) (fun _ => ?_) (fun q => absurd (by decide) q)
            exact nxt _ rfl _ rfl
      iterate 2 refine fst1_ok X (dk rfl) rfl ?_
      exact inner 8 0 rfl _ rfl
  refine fst1_ok X (dk rfl) rfl ?_
  refine getf_ok X flX4_14 (dk rfl) t3 rfl ?_
  iterate 2 refine fst1_ok X (dk rfl) rfl ?_
  refine getf_ok X flX4_14 (dk rfl) t3 rfl ?_
  refine fst1_ok X (dk rfl) rfl ?_
  refine callVR_ok (ci := 7) (T := TX5) (N := 3) (av := [vI t]) (r := [vI t, .ref (B 50)]) X E (s5_endOf h t1 (i := 50) (by omega) t2 e1) lkX5_endOf mlX4_100 lmX5_endOf lpX5_endOf ⟨Nat.le_of_ble_eq_true rfl, Nat.le_of_ble_eq_true rfl⟩ ⟨Nat.le_of_ble_eq_true rfl, Nat.le_of_ble_eq_true rfl⟩ rfl ⟨_, (t1 50 (by omega)).2.1⟩ (Nat.le_of_ble_eq_true rfl) (dk rfl) ?_
  rintro _ rfl
  refine callVR_ok (ci := 7) (T := TX5) (N := 3) (av := [vI t, vI (t + tl X1 t)]) (r := []) X E (s5_namesIn h t1 (i := 50) (by omega) t2 (a := t) (b := t + tl X1 t) (by omega) e3) lkX5_namesIn mlX4_103 lmX5_namesIn lpX5_namesIn ⟨Nat.le_of_ble_eq_true rfl, Nat.le_of_ble_eq_true rfl⟩ ⟨Nat.le_of_ble_eq_true rfl, Nat.le_of_ble_eq_true rfl⟩ rfl ⟨_, (t1 50 (by omega)).2.1⟩ (Nat.le_of_ble_eq_true rfl) (dk rfl) ?_
  rintro _ rfl
  rw [Nat.add_sub_cancel_left, show (X1.drop t).take (tl X1 t) = sub' X1 t from rfl]
  iterate 3 refine fst1_ok X (dk rfl) rfl ?_
  exact outer 8 0 rfl _ rfl
set_option maxHeartbeats 32000000 in
theorem s4_takeStep (h : AH) (Y : LYO B Q) {n1 : Nat} {X1 : List Nat} {Sx : SS} (hY : BY X1 n1) {u1 u2 : Nat} (T : STP B Q P h F X1 Sx (ps ++ [(u1, u2)]) tk 0) (hX : BX X1) (hS : S1 X1 Sx) (hl126 : ps.length < 126) (hu1 : u1 < X1.length) (hu2 : u2 < X1.length) : CT la D cA B0 pa yX4_takeStep cX4_takeStep 6 none (rmD 3 0 0) [.ref (P 4)] h (SQ B Q P F X1 (stepM X1 Sx u1 u2).1 (ps ++ (stepM X1 Sx u1 u2).2.2.reverse) (tk + Int32.ofInt 1) (nI (stepM X1 Sx u1 u2).2.1) h) := by
  refine CT_of (by decide +kernel) (Nat.le_of_ble_eq_true rfl) ?_
  intro p e s m args below meth c X E hr hlk hnm
  have dk : ∀ {pc : Nat} {q : Instr × Nat}, lkd DX4_takeStep pc = some q → decode cX4_takeStep pc = .ok q := lkd_ok DX4_takeStep_ok
  obtain ⟨t1, t2, t3, -, t5⟩ := id T
  have hX32 := hX.2.2
  obtain ⟨d1, d2, d3⟩ := dp_ok hX hS hu1
  obtain ⟨d4, d5, d6⟩ := dp_ok hX hS hu2
  have hg1 := gl_get d3
  have hg2 := gl_get d6
  have hok1 := gl_ok hX d3
  have hok2 := gl_ok hX d6
  have hlt1 := hok1.lt
  have hlt2 := hok2.lt
  have h128 := t5.1
  rw [List.length_append, List.length_singleton] at h128
  have el : (ps ++ [(u1, u2)]).length = ps.length + 1 := by rw [List.length_append, List.length_singleton]
  have egl : (ps ++ [(u1, u2)])[ps.length]? = some (u1, u2) := by rw [List.getElem?_append_right (Nat.le_refl _), Nat.sub_self]; rfl
  have hL4 : P 4 ∈ LSt P Q := List.mem_cons_self
  have hL3 : P 13 ∈ LSt P Q ∧ Q 64 ∈ LSt P Q ∧ Q 65 ∈ LSt P Q := ⟨List.mem_cons_of_mem _ (List.mem_cons_of_mem _ List.mem_cons_self), List.mem_cons_of_mem _ (List.mem_cons_of_mem _ (List.mem_cons_of_mem _ List.mem_cons_self)), List.mem_cons_of_mem _ (List.mem_cons_of_mem _ (List.mem_cons_of_mem _ (List.mem_cons_of_mem _ List.mem_cons_self)))⟩
  iterate 2 refine fst1_ok X (dk rfl) rfl ?_
  refine getf_ok X flX4_52 (dk rfl) t3 rfl ?_
  iterate 2 refine fst1_ok X (dk rfl) rfl ?_
  refine putf_ok X flX4_52 ftX4_3 (Or.inl rfl) rfl rfl (dk rfl) t3 (Nat.le_of_ble_eq_true rfl) ?_
  have Ta := T.fld (tk + Int32.ofInt 1) 0
  have ta3 := Ta.2.2.1
  refine fst1_ok X (dk rfl) rfl ?_
  refine getf_ok X flX4_27 (dk rfl) ta3 rfl ?_
  refine callVR_ok (ci := 4) (T := TX2) (N := 3) (av := []) (r := []) X E (s2_length _ Ta.2.2.2.2) lkX2_length mlX4_60 lmX2_length lpX2_length ⟨Nat.le_of_ble_eq_true rfl, Nat.le_of_ble_eq_true rfl⟩ ⟨Nat.le_of_ble_eq_true rfl, Nat.le_of_ble_eq_true rfl⟩ rfl ⟨_, Ta.2.2.2.2.2.2.1⟩ (Nat.le_of_ble_eq_true rfl) (dk rfl) ?_
  rintro _ rfl
  rw [el]
  iterate 5 refine fst1_ok X (dk rfl) rfl ?_
  rw [nI_1', nI_sub (by omega), Nat.add_sub_cancel]
  refine getf_ok X flX4_27 (dk rfl) ta3 rfl ?_
  refine fst1_ok X (dk rfl) rfl ?_
  refine callVR_ok (ci := 4) (T := TX2) (N := 3) (av := [vI ps.length]) (r := [.ref (P 4)]) X E (s2_oneAt _ Ta.2.2.2.2 egl) lkX2_oneAt mlX4_70 lmX2_oneAt lpX2_oneAt ⟨Nat.le_of_ble_eq_true rfl, Nat.le_of_ble_eq_true rfl⟩ ⟨Nat.le_of_ble_eq_true rfl, Nat.le_of_ble_eq_true rfl⟩ rfl ⟨_, Ta.2.2.2.2.2.2.1⟩ (Nat.le_of_ble_eq_true rfl) (dk rfl) ?_
  rintro _ rfl
  refine callVR_ok (ci := 6) (T := TX4) (N := 5) (av := [vI u1]) (r := []) X E (s4_lookedUp _ Ta hX hS hu1) lkX4_lookedUp mlX4_74 lmX4_lookedUp lpX4_lookedUp ⟨Nat.le_of_ble_eq_true rfl, Nat.le_of_ble_eq_true rfl⟩ ⟨Nat.le_of_ble_eq_true rfl, Nat.le_of_ble_eq_true rfl⟩ rfl ⟨_, ta3⟩ (Nat.le_of_ble_eq_true rfl) (dk rfl) ?_
  rintro _ rfl
  iterate 3 refine fst1_ok X (dk rfl) rfl ?_
  refine getf_ok X flX4_27 (dk rfl) ta3 rfl ?_
  refine fst1_ok X (dk rfl) rfl ?_
  refine callVR_ok (ci := 4) (T := TX2) (N := 3) (av := [vI ps.length]) (r := [.ref (P 4)]) X E (s2_otherAt _ Ta.2.2.2.2 egl) lkX2_otherAt mlX4_77 lmX2_otherAt lpX2_otherAt ⟨Nat.le_of_ble_eq_true rfl, Nat.le_of_ble_eq_true rfl⟩ ⟨Nat.le_of_ble_eq_true rfl, Nat.le_of_ble_eq_true rfl⟩ rfl ⟨_, Ta.2.2.2.2.2.2.1⟩ (Nat.le_of_ble_eq_true rfl) (dk rfl) ?_
  rintro _ rfl
  refine callVR_ok (ci := 6) (T := TX4) (N := 5) (av := [vI u2]) (r := []) X E (s4_lookedUp _ Ta hX hS hu2) lkX4_lookedUp mlX4_74 lmX4_lookedUp lpX4_lookedUp ⟨Nat.le_of_ble_eq_true rfl, Nat.le_of_ble_eq_true rfl⟩ ⟨Nat.le_of_ble_eq_true rfl, Nat.le_of_ble_eq_true rfl⟩ rfl ⟨_, ta3⟩ (Nat.le_of_ble_eq_true rfl) (dk rfl) ?_
  rintro _ rfl
  iterate 2 refine fst1_ok X (dk rfl) rfl ?_
  refine getf_ok X flX4_27 (dk rfl) ta3 rfl ?_
  refine callV_ok (ci := 4) (T := TX2) (N := 3) (av := []) (r := []) X E (s2_dropNext _ Ta.2.2.2.2) lkX2_dropNext mlX4_80 lmX2_dropNext lpX2_dropNext ⟨Nat.le_of_ble_eq_true rfl, Nat.le_of_ble_eq_true rfl⟩ ⟨Nat.le_of_ble_eq_true rfl, Nat.le_of_ble_eq_true rfl⟩ rfl Ta.2.2.2.2.2.2.1 (Nat.le_of_ble_eq_true rfl) (dk rfl) ?_
  rintro _ h2 ⟨rfl, H2, f2⟩
  have Tb := Ta.pr Y H2 f2
  have tb3 := Tb.2.2.1
  have fb : FrU B Q (LSt P Q) h h2 := ((FrU.rf h).set hL4 _).trans (f2.u hL3)
  refine fst1_ok X (dk rfl) rfl ?_
  refine getf_ok X flX4_14 (dk rfl) tb3 rfl ?_
  refine fst1_ok X (dk rfl) rfl ?_
  refine callVR_ok (ci := 7) (T := TX5) (N := 3) (av := [vI (dp X1 Sx u1)]) (r := []) X E (s5_letterAt h2 Tb.1 (i := 50) (by omega) (nI (dp X1 Sx u1))) lkX5_letterAt mlX4_83 lmX5_letterAt lpX5_letterAt ⟨Nat.le_of_ble_eq_true rfl, Nat.le_of_ble_eq_true rfl⟩ ⟨Nat.le_of_ble_eq_true rfl, Nat.le_of_ble_eq_true rfl⟩ rfl ⟨_, (Tb.1 50 (by omega)).2.1⟩ (Nat.le_of_ble_eq_true rfl) (dk rfl) ?_
  rintro _ rfl
  rw [Tb.2.1.lt hg1 (by omega)]
  iterate 2 refine fst1_ok X (dk rfl) rfl ?_
  refine getf_ok X flX4_14 (dk rfl) tb3 rfl ?_
  refine fst1_ok X (dk rfl) rfl ?_
  refine callVR_ok (ci := 7) (T := TX5) (N := 3) (av := [vI (dp X1 Sx u2)]) (r := []) X E (s5_letterAt h2 Tb.1 (i := 50) (by omega) (nI (dp X1 Sx u2))) lkX5_letterAt mlX4_83 lmX5_letterAt lpX5_letterAt ⟨Nat.le_of_ble_eq_true rfl, Nat.le_of_ble_eq_true rfl⟩ ⟨Nat.le_of_ble_eq_true rfl, Nat.le_of_ble_eq_true rfl⟩ rfl ⟨_, (Tb.1 50 (by omega)).2.1⟩ (Nat.le_of_ble_eq_true rfl) (dk rfl) ?_
  rintro _ rfl
  rw [Tb.2.1.lt hg2 (by omega)]
  iterate 2 refine fst1_ok X (dk rfl) rfl ?_
  refine callNR_ok (av := [vI (gl X1 (dp X1 Sx u1))]) (r := []) X E (s6_isName h2 (x := gl X1 (dp X1 Sx u1)) (by omega)) lkX6_isName mnX4_86 lsX6_isName ⟨Nat.le_of_ble_eq_true rfl, Nat.le_of_ble_eq_true rfl⟩ ⟨Nat.le_of_ble_eq_true rfl, Nat.le_of_ble_eq_true rfl⟩ (Nat.le_of_ble_eq_true rfl) (dk rfl) ?_
  rintro _ rfl
  obtain ⟨z0, hz⟩ : ∃ z0, z0 = stepM X1 Sx u1 u2 := ⟨_, rfl⟩
  have st := hz
  unfold stepM at st
  rw [← hz]
  by_cases c1 : gl X1 (dp X1 Sx u1) < 8
  · rw [decide_eq_true c1]
    rw [if_pos (by omega)] at st
    refine br_ok X (dk rfl) rfl (show ((78 : Nat) : Int) + 20 = ((98 : Nat) : Int) from rfl) (fun q => absurd q bI_t) (fun _ => ?_)
    refine fst1_ok X (dk rfl) rfl ?_
    refine callNR_ok (av := [vI (gl X1 (dp X1 Sx u2))]) (r := []) X E (s6_isName h2 (x := gl X1 (dp X1 Sx u2)) (by omega)) lkX6_isName mnX4_86 lsX6_isName ⟨Nat.le_of_ble_eq_true rfl, Nat.le_of_ble_eq_true rfl⟩ ⟨Nat.le_of_ble_eq_true rfl, Nat.le_of_ble_eq_true rfl⟩ (Nat.le_of_ble_eq_true rfl) (dk rfl) ?_
    rintro _ rfl
    by_cases c2 : gl X1 (dp X1 Sx u2) < 8
    · rw [decide_eq_true c2]
      rw [if_pos (by omega)] at st
      refine br_ok X (dk rfl) rfl (show ((86 : Nat) : Int) + 12 = ((98 : Nat) : Int) from rfl) (fun q => absurd q bI_t) (fun _ => ?_)
      iterate 3 refine fst1_ok X (dk rfl) rfl ?_
      refine callV_ok (ci := 6) (T := TX4) (N := 5) (av := [vI (dp X1 Sx u1), vI (dp X1 Sx u2)]) (r := []) X E (s4_joinNames h2 Y Tb hX hS d3 d6 c1 c2) lkX4_joinNames mlX4_90 lmX4_joinNames lpX4_joinNames ⟨Nat.le_of_ble_eq_true rfl, Nat.le_of_ble_eq_true rfl⟩ ⟨Nat.le_of_ble_eq_true rfl, Nat.le_of_ble_eq_true rfl⟩ rfl tb3 (Nat.le_of_ble_eq_true rfl) (dk rfl) ?_
      rintro _ h3 ⟨rfl, T3, f3⟩
      refine br_ok X (dk rfl) rfl (show ((95 : Nat) : Int) + 67 = ((162 : Nat) : Int) from rfl) (fun _ => ?_) (fun q => absurd trivial q)
      have ez : z0 = ((if gl X1 (dp X1 Sx u2) < gl X1 (dp X1 Sx u1) then upS Sx (gl X1 (dp X1 Sx u1)) (dp X1 Sx u2) else if gl X1 (dp X1 Sx u1) < gl X1 (dp X1 Sx u2) then upS Sx (gl X1 (dp X1 Sx u2)) (dp X1 Sx u1) else Sx), 0, []) := by
        rw [st]
        split
        · rfl
        · split <;> rfl
      rw [ez]
      exact retv_ok X hr hlk (dk rfl) (⟨rfl, by rw [List.reverse_nil, List.append_nil]; exact T3, fb.trans f3⟩) (Nat.le_of_ble_eq_true rfl) (Nat.le_of_ble_eq_true rfl)
    · rw [decide_eq_false c2]
      rw [if_neg (by rcases hok2 with z | z <;> omega)] at st
      refine br_ok X (dk rfl) rfl (show ((86 : Nat) : Int) + 12 = ((98 : Nat) : Int) from rfl) (fun _ => ?_) (fun q => absurd bI_f' q)
      refine fst1_ok X (dk rfl) rfl ?_
      refine callNR_ok (av := [vI (gl X1 (dp X1 Sx u1))]) (r := []) X E (s6_isName h2 (x := gl X1 (dp X1 Sx u1)) (by omega)) lkX6_isName mnX4_86 lsX6_isName ⟨Nat.le_of_ble_eq_true rfl, Nat.le_of_ble_eq_true rfl⟩ ⟨Nat.le_of_ble_eq_true rfl, Nat.le_of_ble_eq_true rfl⟩ (Nat.le_of_ble_eq_true rfl) (dk rfl) ?_
      rintro _ rfl
      rw [decide_eq_true c1]
      refine br_ok X (dk rfl) rfl (show ((103 : Nat) : Int) + 13 = ((116 : Nat) : Int) from rfl) (fun q => absurd q bI_t) (fun _ => ?_)
      iterate 3 refine fst1_ok X (dk rfl) rfl ?_
      refine callV_ok (ci := 6) (T := TX4) (N := 5) (av := [vI (gl X1 (dp X1 Sx u1)), vI (dp X1 Sx u2)]) (r := []) X E (s4_standFor h2 Y hY Tb hX hS c1 d6) lkX4_standFor mlX4_93 lmX4_standFor lpX4_standFor ⟨Nat.le_of_ble_eq_true rfl, Nat.le_of_ble_eq_true rfl⟩ ⟨Nat.le_of_ble_eq_true rfl, Nat.le_of_ble_eq_true rfl⟩ rfl tb3 (Nat.le_of_ble_eq_true rfl) (dk rfl) ?_
      rintro _ h3 ⟨rfl, T3, f3⟩
      refine br_ok X (dk rfl) rfl (show ((113 : Nat) : Int) + 49 = ((162 : Nat) : Int) from rfl) (fun _ => ?_) (fun q => absurd trivial q)
      cases hw : isWi (smO X1 Sx) (gl X1 (dp X1 Sx u1)) (sub' X1 (dp X1 Sx u2)) with
      | true =>
        rw [hw] at st T3
        rw [if_pos rfl] at st
        rw [if_pos rfl, if_pos rfl] at T3
        rw [st]
        exact retv_ok X hr hlk (dk rfl) ⟨rfl, by rw [List.reverse_nil, List.append_nil]; exact T3, fb.trans f3⟩ (Nat.le_of_ble_eq_true rfl) (Nat.le_of_ble_eq_true rfl)
      | false =>
        rw [hw] at st T3
        rw [if_neg (by decide)] at st
        rw [if_neg (by decide), if_neg (by decide)] at T3
        rw [st]
        exact retv_ok X hr hlk (dk rfl) ⟨rfl, by rw [List.reverse_nil, List.append_nil]; exact T3, fb.trans f3⟩ (Nat.le_of_ble_eq_true rfl) (Nat.le_of_ble_eq_true rfl)
  · rw [decide_eq_false c1]
    rw [if_neg (by rcases hok1 with z | z <;> omega)] at st
    refine br_ok X (dk rfl) rfl (show ((78 : Nat) : Int) + 20 = ((98 : Nat) : Int) from rfl) (fun _ => ?_) (fun q => absurd bI_f' q)
    refine fst1_ok X (dk rfl) rfl ?_
    refine callNR_ok (av := [vI (gl X1 (dp X1 Sx u1))]) (r := []) X E (s6_isName h2 (x := gl X1 (dp X1 Sx u1)) (by omega)) lkX6_isName mnX4_86 lsX6_isName ⟨Nat.le_of_ble_eq_true rfl, Nat.le_of_ble_eq_true rfl⟩ ⟨Nat.le_of_ble_eq_true rfl, Nat.le_of_ble_eq_true rfl⟩ (Nat.le_of_ble_eq_true rfl) (dk rfl) ?_
    rintro _ rfl
    rw [decide_eq_false c1]
    refine br_ok X (dk rfl) rfl (show ((103 : Nat) : Int) + 13 = ((116 : Nat) : Int) from rfl) (fun _ => ?_) (fun q => absurd bI_f' q)
    refine fst1_ok X (dk rfl) rfl ?_
    refine callNR_ok (av := [vI (gl X1 (dp X1 Sx u2))]) (r := []) X E (s6_isName h2 (x := gl X1 (dp X1 Sx u2)) (by omega)) lkX6_isName mnX4_86 lsX6_isName ⟨Nat.le_of_ble_eq_true rfl, Nat.le_of_ble_eq_true rfl⟩ ⟨Nat.le_of_ble_eq_true rfl, Nat.le_of_ble_eq_true rfl⟩ (Nat.le_of_ble_eq_true rfl) (dk rfl) ?_
    rintro _ rfl
    by_cases c2 : gl X1 (dp X1 Sx u2) < 8
    · rw [decide_eq_true c2]
      rw [if_pos (by omega)] at st
      refine br_ok X (dk rfl) rfl (show ((121 : Nat) : Int) + 13 = ((134 : Nat) : Int) from rfl) (fun q => absurd q bI_t) (fun _ => ?_)
      iterate 3 refine fst1_ok X (dk rfl) rfl ?_
      refine callV_ok (ci := 6) (T := TX4) (N := 5) (av := [vI (gl X1 (dp X1 Sx u2)), vI (dp X1 Sx u1)]) (r := []) X E (s4_standFor h2 Y hY Tb hX hS c2 d3) lkX4_standFor mlX4_93 lmX4_standFor lpX4_standFor ⟨Nat.le_of_ble_eq_true rfl, Nat.le_of_ble_eq_true rfl⟩ ⟨Nat.le_of_ble_eq_true rfl, Nat.le_of_ble_eq_true rfl⟩ rfl tb3 (Nat.le_of_ble_eq_true rfl) (dk rfl) ?_
      rintro _ h3 ⟨rfl, T3, f3⟩
      refine br_ok X (dk rfl) rfl (show ((131 : Nat) : Int) + 31 = ((162 : Nat) : Int) from rfl) (fun _ => ?_) (fun q => absurd trivial q)
      cases hw : isWi (smO X1 Sx) (gl X1 (dp X1 Sx u2)) (sub' X1 (dp X1 Sx u1)) with
      | true =>
        rw [hw] at st T3
        rw [if_pos rfl] at st
        rw [if_pos rfl, if_pos rfl] at T3
        rw [st]
        exact retv_ok X hr hlk (dk rfl) ⟨rfl, by rw [List.reverse_nil, List.append_nil]; exact T3, fb.trans f3⟩ (Nat.le_of_ble_eq_true rfl) (Nat.le_of_ble_eq_true rfl)
      | false =>
        rw [hw] at st T3
        rw [if_neg (by decide)] at st
        rw [if_neg (by decide), if_neg (by decide)] at T3
        rw [st]
        exact retv_ok X hr hlk (dk rfl) ⟨rfl, by rw [List.reverse_nil, List.append_nil]; exact T3, fb.trans f3⟩ (Nat.le_of_ble_eq_true rfl) (Nat.le_of_ble_eq_true rfl)
    · rw [decide_eq_false c2]
      rw [if_neg (by rcases hok2 with z | z <;> omega)] at st
      refine br_ok X (dk rfl) rfl (show ((121 : Nat) : Int) + 13 = ((134 : Nat) : Int) from rfl) (fun _ => ?_) (fun q => absurd bI_f' q)
      iterate 2 refine fst1_ok X (dk rfl) rfl ?_
      by_cases c3 : gl X1 (dp X1 Sx u1) = gl X1 (dp X1 Sx u2)
      · rw [if_pos c3] at st
        refine br_ok X (dk rfl) rfl (show ((138 : Nat) : Int) + 11 = ((149 : Nat) : Int) from rfl) (fun _ => ?_) (fun q => absurd (by rw [c3]) q)
        refine fst1_ok X (dk rfl) rfl ?_
        refine getf_ok X flX4_27 (dk rfl) tb3 rfl ?_
        refine fst1_ok X (dk rfl) rfl ?_
        refine getf_ok X flX4_14 (dk rfl) tb3 rfl ?_
        iterate 2 refine fst1_ok X (dk rfl) rfl ?_
        have hga := ga_le hX d3
        refine callV_ok (ci := 4) (T := TX2) (N := 3) (av := [.ref (B 50), vI (dp X1 Sx u1), vI (dp X1 Sx u2)]) (r := []) X E (s2_addParts h2 Tb.2.2.2.2 (fun z => by have := Y.2 64 65 (by decide) (by decide) z; omega) (hAq Y (by decide) (by decide) (by decide) (by decide)) Tb.1 (i := 50) (by omega) hX Tb.2.1 d3 d6 c3 (by omega)) lkX2_addParts mlX4_96 lmX2_addParts lpX2_addParts ⟨Nat.le_of_ble_eq_true rfl, Nat.le_of_ble_eq_true rfl⟩ ⟨Nat.le_of_ble_eq_true rfl, Nat.le_of_ble_eq_true rfl⟩ rfl Tb.2.2.2.2.2.2.1 (Nat.le_of_ble_eq_true rfl) (dk rfl) ?_
        rintro _ h3 ⟨rfl, H3, f3⟩
        rw [st]
        exact retv_ok X hr hlk (dk rfl) (⟨rfl, Tb.pr Y H3 f3, fb.trans (f3.u hL3)⟩) (Nat.le_of_ble_eq_true rfl) (Nat.le_of_ble_eq_true rfl)
      · rw [if_neg c3] at st
        refine br_ok X (dk rfl) rfl (show ((138 : Nat) : Int) + 11 = ((149 : Nat) : Int) from rfl) (fun q => absurd (nI_inj (by omega) (by omega) q) c3) (fun _ => ?_)
        iterate 2 refine fst1_ok X (dk rfl) rfl ?_
        refine putf_ok X flX4_56 ftX4_4 (Or.inl rfl) rfl rfl (dk rfl) tb3 (Nat.le_of_ble_eq_true rfl) ?_
        rw [st]
        refine br_ok X (dk rfl) rfl (show ((146 : Nat) : Int) + 16 = ((162 : Nat) : Int) from rfl) (fun _ => ?_) (fun q => absurd trivial q)
        exact retv_ok X hr hlk (dk rfl) (⟨rfl, by rw [List.reverse_nil, List.append_nil]; exact Tb.fld _ _, fb.trans ((FrU.rf h2).set hL4 _)⟩) (Nat.le_of_ble_eq_true rfl) (Nat.le_of_ble_eq_true rfl)
end S17
