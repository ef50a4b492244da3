section Uc17steps
/-! the class, strongly: two terms made alike by steps (printed by wip/p20/genT5.py) -/
/-- what names stand for, as a row of places -/
def SFR (h : AH) (R : Nat) (S : SS) : Prop := ∃ row : List Int32, h R = some (107, row.map Value.int) ∧ row.length = 8 ∧ ∀ n, n < 8 → row[n]? = some (pI (S n))
theorem SFR.set {h : AH} {R : Nat} {S : SS} (H : SFR h R S) {row : List Int32} (hr : h R = some (107, row.map Value.int)) {x t : Nat} (hx : x < 8) : SFR (hup h R (107, (row.set x (nI t)).map Value.int)) R (upS S x t) := by
  obtain ⟨row2, r1, r2, r3⟩ := H
  have e : row2 = row := by
    rw [r1] at hr
    have e1 : row2.map Value.int = row.map Value.int := (Prod.mk.inj (Option.some.inj hr)).2
    exact (List.map_inj_right (fun a b z => by cases z; rfl)).mp e1
  subst e
  refine ⟨_, hup_self _ _ _, by rw [List.length_set]; exact r2, fun n hn => ?_⟩
  by_cases en : n = x
  · subst en
    rw [List.getElem?_set_self (by omega), upS_self]
    rfl
  · rw [List.getElem?_set_ne (Ne.symm en), upS_ne S t en]
    exact r3 n hn
theorem TS.outQ {B Q : Nat → Nat} {h : AH} {F : Nat → TC} (Y : LYO B Q) (S : TS B Q h F) {j : Nat} (h1 : 60 ≤ j) (h2 : j < 70) {vs : List Value} (e : h (Q j) = some (107, vs)) (c : AC) : TS B Q (hup h (Q j) c) F := fun i hi => by
  obtain ⟨s1, s2, xs, s3, s4⟩ := S i hi
  exact ⟨s1, by rw [hup_ne _ _ (k_ne s2 e (by decide))]; exact s2, xs, by rw [hup_ne _ _ (fun z => by have := Y.2 _ _ (by omega) h2 z; omega)]; exact s3, s4⟩
theorem PRS.out {h : AH} {pb a1 a2 : Nat} {ps : PL2} (H : PRS h pb a1 a2 ps) {a : Nat} (h0 : a ≠ pb) (h1 : a ≠ a1) (h2 : a ≠ a2) (c : AC) : PRS (hup h a c) pb a1 a2 ps := by
  obtain ⟨g1, g2, g3, ⟨xs, x1, x2, x3⟩, ys, y1, y2, y3⟩ := H
  exact ⟨g1, g2, by rw [hup_ne _ _ (Ne.symm h0)]; exact g3, ⟨xs, by rw [hup_ne _ _ (Ne.symm h1)]; exact x1, x2, x3⟩, ys, by rw [hup_ne _ _ (Ne.symm h2)]; exact y1, y2, y3⟩
theorem kdL_get (X : List Nat) (a b : Nat) : ∀ k j i, i < k → (kdL X a b k j)[i]? = some (ko X a (j + i), ko X b (j + i))
  | 0, j, i, h => by omega
  | k + 1, j, 0, h => rfl
  | k + 1, j, i + 1, h => by
    show (kdL X a b k (j + 1))[i]? = _
    rw [kdL_get X a b k (j + 1) i (by omega), show j + 1 + i = j + (i + 1) by omega]
/-- the cells that steps write to -/
def LSt (P Q : Nat → Nat) : List Nat := [P 4, Q 60, P 13, Q 64, Q 65]
def STP (B Q P : Nat → Nat) (h : AH) (F : Nat → TC) (X : List Nat) (S : SS) (ps : PL2) (tk en : Int32) : Prop :=
  TS B Q h F ∧ TN (F 50) X ∧ h (P 4) = some (6, [.ref (B 50), .ref (Q 60), .ref (P 13), .int tk, .int en]) ∧ SFR h (Q 60) S ∧ PRS h (P 13) (Q 64) (Q 65) ps
section STs
variable {B Q P : Nat → Nat} {h h' : AH} {F : Nat → TC} {X : List Nat} {S : SS} {ps qs : PL2} {tk en : Int32}
theorem STP.fld (T : STP B Q P h F X S ps tk en) (tk' en' : Int32) : STP B Q P (hup h (P 4) (6, [.ref (B 50), .ref (Q 60), .ref (P 13), .int tk', .int en'])) F X S ps tk' en' := by
  obtain ⟨t1, t2, t3, ⟨row, r1, r2, r3⟩, t5⟩ := T
  obtain ⟨-, -, g3, ⟨xs, x1, -⟩, ys, y1, -⟩ := id t5
  exact ⟨t1.out t3 (by decide) (by decide) _, t2, hup_self _ _ _, ⟨row, by rw [hup_ne _ _ (k_ne r1 t3 (by decide))]; exact r1, r2, r3⟩, t5.out (k_ne t3 g3 (by decide)) (k_ne t3 x1 (by decide)) (k_ne t3 y1 (by decide)) _⟩
theorem STP.row (Y : LYO B Q) (T : STP B Q P h F X S ps tk en) {x t : Nat} (hx : x < 8) : ∃ row : List Int32, h (Q 60) = some (107, row.map Value.int) ∧ row.length = 8 ∧ (∀ n, n < 8 → row[n]? = some (pI (S n))) ∧ STP B Q P (hup h (Q 60) (107, (row.set x (nI t)).map Value.int)) F X (upS S x t) ps tk en := by
  obtain ⟨t1, t2, t3, ⟨row, r1, r2, r3⟩, t5⟩ := T
  have H : SFR h (Q 60) S := ⟨row, r1, r2, r3⟩
  obtain ⟨-, -, g3, ⟨xs, x1, -⟩, ys, y1, -⟩ := id t5
  exact ⟨row, r1, r2, r3, t1.outQ Y (by decide) (by decide) r1 _, t2, by rw [hup_ne _ _ (k_ne t3 r1 (by decide))]; exact t3, H.set r1 hx, t5.out (k_ne r1 g3 (by decide)) (fun z => by have := Y.2 60 64 (by decide) (by decide) z; omega) (fun z => by have := Y.2 60 65 (by decide) (by decide) z; omega) _⟩
theorem hAq (Y : LYO B Q) {a b : Nat} (h1 : 60 ≤ a) (h2 : a < 70) (h3 : 60 ≤ b) (h4 : b < 70) : ∀ i, i < 52 → Q a ≠ Q i ∧ Q b ≠ Q i := fun i hi => ⟨fun z => by have := Y.2 _ _ h2 (by omega) z; omega, fun z => by have := Y.2 _ _ h4 (by omega) z; omega⟩
/-- other pairs -/
theorem STP.pr (Y : LYO B Q) (T : STP B Q P h F X S ps tk en) (H : PRS h' (P 13) (Q 64) (Q 65) qs) (f : FrP (P 13) (Q 64) (Q 65) h h') : STP B Q P h' F X S qs tk en := by
  obtain ⟨t1, t2, t3, ⟨row, r1, r2, r3⟩, t5⟩ := T
  obtain ⟨-, -, g3, -⟩ := id t5
  exact ⟨t1.frPw f t5.w (hAq Y (by decide) (by decide) (by decide) (by decide)), t2, f.keep t5.w t3 (by decide) (by decide), ⟨row, by rw [f (Q 60) (k_ne r1 g3 (by decide)) (fun z => by have := Y.2 60 64 (by decide) (by decide) z; omega) (fun z => by have := Y.2 60 65 (by decide) (by decide) z; omega)]; exact r1, r2, r3⟩, H⟩
end STs
/-- a step keeps places within the row -/
theorem kdL_in {X : List Nat} (hX : BX X) {a b : Nat} (ha : a < X.length) (hb : b < X.length) (hg : gl X a = gl X b) : ∀ z ∈ kdL X a b (ga X a) 0, z.1 < X.length ∧ z.2 < X.length := fun z hz => by
  obtain ⟨i, hi⟩ := List.getElem?_of_mem hz
  have hl := (List.getElem?_eq_some_iff.mp hi).1
  rw [kdL_len] at hl
  rw [kdL_get X a b _ 0 i hl, Nat.zero_add] at hi
  cases hi
  exact ⟨(ko_mono hX ha hl).2.2.2.2, (ko_mono hX hb (by rw [← ga_eq hg]; exact hl)).2.2.2.2⟩
theorem stepM_ok {X : List Nat} (hX : BX X) {S : SS} (hS : S1 X S) {u1 u2 : Nat} (h1 : u1 < X.length) (h2 : u2 < X.length) : S1 X (stepM X S u1 u2).1 ∧ (∀ z ∈ (stepM X S u1 u2).2.2, z.1 < X.length ∧ z.2 < X.length) ∧ (stepM X S u1 u2).2.1 ≤ 2 ∧ (stepM X S u1 u2).2.2.length ≤ 3 := by
  obtain ⟨d1, d2, d3⟩ := dp_ok hX hS h1
  obtain ⟨d4, d5, d6⟩ := dp_ok hX hS h2
  have no : ∀ z ∈ ([] : PL2), z.1 < X.length ∧ z.2 < X.length := fun z hz => by simp at hz
  unfold stepM
  by_cases hx : gl X (dp X S u1) < 10
  · have hx8 := gl_8 hX d3 hx
    rw [if_pos hx]
    by_cases hy : gl X (dp X S u2) < 10
    · have hy8 := gl_8 hX d6 hy
      rw [if_pos hy]
      by_cases c1 : gl X (dp X S u2) < gl X (dp X S u1)
      · rw [if_pos c1]
        exact ⟨S1_up hS hx8 d6 (fun _ => c1), no, Nat.le_of_ble_eq_true rfl, Nat.le_of_ble_eq_true rfl⟩
      · rw [if_neg c1]
        by_cases c2 : gl X (dp X S u1) < gl X (dp X S u2)
        · rw [if_pos c2]
          exact ⟨S1_up hS hy8 d3 (fun _ => c2), no, Nat.le_of_ble_eq_true rfl, Nat.le_of_ble_eq_true rfl⟩
        · rw [if_neg c2]
          exact ⟨hS, no, Nat.le_of_ble_eq_true rfl, Nat.le_of_ble_eq_true rfl⟩
    · rw [if_neg hy]
      split
      · exact ⟨hS, no, Nat.le_of_ble_eq_true rfl, Nat.le_of_ble_eq_true rfl⟩
      · exact ⟨S1_up hS hx8 d6 (fun z => absurd z hy), no, Nat.le_of_ble_eq_true rfl, Nat.le_of_ble_eq_true rfl⟩
  · rw [if_neg hx]
    by_cases hy : gl X (dp X S u2) < 10
    · have hy8 := gl_8 hX d6 hy
      rw [if_pos hy]
      split
      · exact ⟨hS, no, Nat.le_of_ble_eq_true rfl, Nat.le_of_ble_eq_true rfl⟩
      · exact ⟨S1_up hS hy8 d3 (fun z => absurd z hx), no, Nat.le_of_ble_eq_true rfl, Nat.le_of_ble_eq_true rfl⟩
    · rw [if_neg hy]
      split
      · rename_i hg
        exact ⟨hS, kdL_in hX d3 d6 hg, Nat.le_of_ble_eq_true rfl, by show (kdL X _ _ _ 0).length ≤ 3; rw [kdL_len]; exact ga_le hX d3⟩
      · exact ⟨hS, no, Nat.le_of_ble_eq_true rfl, Nat.le_of_ble_eq_true rfl⟩
section S17
variable {la : Launch} {D : va_G} {cA : Nat → ClassId} {B0 pa : Nat} {B Q P : Nat → Nat} {F : Nat → TC} {pb a1 a2 : Nat} {ps : PL2} {tk en : Int32}
set_option maxHeartbeats 4000000 in
theorem sJ7_fill (h : AH) {R : Nat} {xs : List Int32} (hr0 : h R = some (107, xs.map Value.int)) (hl0 : xs.length = 8) (xv : Int32) : CT la D cA B0 pa yJ7_fill_53178 cJ7_fill_53178 4 none (rmD 0 0 0) [.ref R, .int xv] h (fun v h' => v = none ∧ h' R = some (107, (List.replicate 8 xv).map Value.int) ∧ ∀ a : Nat, a ≠ R → h' a = h a) := by
  refine CT_of (by decide +kernel) (Nat.le_of_ble_eq_true rfl) ?_
  intro p e s m args below meth c X E hr hlk hnm
  have dk : ∀ {pc : Nat} {q : Instr × Nat}, lkd DJ7_fill_53178 pc = some q → decode cJ7_fill_53178 pc = .ok q := lkd_ok DJ7_fill_53178_ok
  have loop : ∀ (u k : Nat) (xs : List Int32) (h1 : AH), u + k = 8 → xs.length = 8 → xs.take k = List.replicate k xv → h1 R = some (107, xs.map Value.int) → (∀ a : Nat, a ≠ R → h1 a = h a) → ∀ l : List (Nat × Value), lsel l [3, 2, 1, 0] = [(3, vI 8), (2, vI k), (1, .int xv), (0, .ref R)] → WR p la e (rmD 0 0 0) s m args below meth c D cA B0 4 (fun v h' => v = none ∧ h' R = some (107, (List.replicate 8 xv).map Value.int) ∧ ∀ a : Nat, a ≠ R → h' a = h a) 5 l [] h1 0 0 := by
    intro u
    induction u with
    | zero =>
      intro k xs h1 hk hl8 ht hr1 ho l hl
      have hk8 : k = 8 := by omega
      subst hk8
      refine WS.sel [3, 2, 1, 0] hl ?_
      iterate 2 refine fst1_ok X (dk rfl) rfl ?_
      refine br_ok X (dk rfl) rfl (show ((7 : Nat) : Int) + 13 = ((20 : Nat) : Int) from rfl) (fun _ => ?_) (fun q => absurd (Int32.le_refl _) q)
      rw [List.take_of_length_le (by omega)] at ht
      rw [ht] at hr1
      exact retv_ok X hr hlk (dk rfl) (⟨rfl, hr1, ho⟩) (Nat.le_of_ble_eq_true rfl) (Nat.le_of_ble_eq_true rfl)
    | succ u ih =>
      intro k xs h1 hk hl8 ht hr1 ho l hl
      refine WS.sel [3, 2, 1, 0] hl ?_
      iterate 2 refine fst1_ok X (dk rfl) rfl ?_
      refine br_ok X (dk rfl) rfl (show ((7 : Nat) : Int) + 13 = ((20 : Nat) : Int) from rfl) (fun q => absurd q (nI_ge (a := k) (b := 8) (by omega) (by omega))) (fun _ => ?_)
      iterate 3 refine fst1_ok X (dk rfl) rfl ?_
      refine ast7_ok X (dk rfl) hr1 (nI_pos (by omega)) (by rw [nI_clamp (by omega)]; omega) ?_
      rw [nI_clamp (by omega)]
      refine fst1_ok X (dk rfl) rfl ?_
      refine br_ok X (dk rfl) rfl (show ((17 : Nat) : Int) + (-12) = ((5 : Nat) : Int) from rfl) (fun _ => ?_) (fun q => absurd trivial q)
      have f2 : Value.int (nI k + Int32.ofInt 1) = vI (k + 1) := congrArg Value.int (by rw [nI_1', nI_add])
      refine WS.sel (l' := [(3, vI 8), (2, vI (k + 1)), (1, .int xv), (0, .ref R)]) [3, 2, 1, 0] (by rw [← f2]; rfl) ?_
      exact ih (k + 1) (xs.set k xv) _ (by omega) (by rw [List.length_set]; exact hl8) (by rw [take_snoc ht (by omega), List.replicate_succ']) (hup_self _ _ _) (fun a ha => by rw [hup_ne _ _ ha]; exact ho a ha) _ rfl
  iterate 3 refine fst1_ok X (dk rfl) rfl ?_
  refine alen7_ok X (dk rfl) hr0 hl0 ?_
  refine fst1_ok X (dk rfl) rfl ?_
  exact loop 8 0 xs h rfl hl0 rfl hr0 (fun a _ => rfl) _ rfl
theorem dec_lt {n : Nat} (h : n < 2 ^ 20) : nI n + Int32.ofInt (-1) < nI n := by
  rw [Int32.lt_iff_toInt_lt, Int32.toInt_add, show (Int32.ofInt (-1)).toInt = -1 by decide +kernel]
  have e : (nI n).toInt = (n : Int) := Int32.toInt_ofNat_of_lt (by omega)
  rw [e]
  have e3 : ((n : Int) + -1).bmod (2 ^ 32) = (n : Int) + -1 := Int.bmod_eq_of_le (by omega) (by omega)
  rw [e3]
  omega
theorem sub_lt {n : Nat} (h : n < 2 ^ 20) : nI n - Int32.ofInt 1 < nI n := by
  rw [Int32.lt_iff_toInt_lt, Int32.toInt_sub, show (Int32.ofInt 1).toInt = 1 by decide +kernel]
  have e : (nI n).toInt = (n : Int) := Int32.toInt_ofNat_of_lt (by omega)
  rw [e]
  have e3 : ((n : Int) - 1).bmod (2 ^ 32) = (n : Int) - 1 := Int.bmod_eq_of_le (by omega) (by omega)
  rw [e3]
  omega
set_option maxHeartbeats 32000000 in
theorem s2_addParts (h : AH) (H : PRS h pb a1 a2 ps) (ha : a1 ≠ a2) (hA : ∀ i, i < 52 → a1 ≠ Q i ∧ a2 ≠ Q i) (S : TS B Q h F) {i : Nat} (hi : i < 52) {X1 : List Nat} (hX : BX X1) (hN : TN (F i) X1) {u1 u2 : Nat} (hu1 : u1 < X1.length) (hu2 : u2 < X1.length) (hg : gl X1 u1 = gl X1 u2) (hl3 : ps.length + ga X1 u1 ≤ 128) : CT la D cA B0 pa yX2_addParts cX2_addParts 8 none (rmD 2 0 0) [.ref pb, .ref (B i), vI u1, vI u2] h (PP pb a1 a2 (ps ++ (kdL X1 u1 u2 (ga X1 u1) 0).reverse) h) := by
  refine CT_of (by decide +kernel) (Nat.le_of_ble_eq_true rfl) ?_
  intro p e s m args below meth c X E hr hlk hnm
  have dk : ∀ {pc : Nat} {q : Instr × Nat}, lkd DX2_addParts pc = some q → decode cX2_addParts pc = .ok q := lkd_ok DX2_addParts_ok
  have hX32 := hX.2.2
  have hgb : ga X1 u2 = ga X1 u1 := (ga_eq hg).symm
  have h3 := ga_le hX hu1
  have hgx := gl_get hu1
  have hok := gl_ok hX hu1
  have hyx := hok.lt
  obtain ⟨hw1, hw2, hw3, ⟨xs, x1, x2, x3⟩, ys, y1, y2, y3⟩ := id H
  have fin : ∀ (h1 : AH) (xs ys : List Int32) (x7 x6 x5 : Int32), x7 < nI ps.length → h1 pb = some (4, [.ref a1, .ref a2, vI ps.length]) → h1 a1 = some (107, xs.map Value.int) → xs.length = 128 → xs.take ps.length = ps.map (fun q => nI q.1) → h1 a2 = some (107, ys.map Value.int) → ys.length = 128 → ys.take ps.length = ps.map (fun q => nI q.2) → (∀ t, t < ga X1 u1 → xs[ps.length + ga X1 u1 - 1 - t]? = some (nI (ko X1 u1 t)) ∧ ys[ps.length + ga X1 u1 - 1 - t]? = some (nI (ko X1 u2 t))) → FrP pb a1 a2 h h1 → ∀ l : List (Nat × Value), lsel l [7, 6, 5, 4, 1, 0] = [(7, .int x7), (6, .int x6), (5, .int x5), (4, vI (ga X1 u1)), (1, .ref (B i)), (0, .ref pb)] → WR p la e (rmD 2 0 0) s m args below meth c D cA B0 8 (PP pb a1 a2 (ps ++ (kdL X1 u1 u2 (ga X1 u1) 0).reverse) h) 52 l [] h1 0 0 := by
    intro h1 xs ys x7 x6 x5 hlt g1 g2 g3 g4 g5 g6 g7 g8 f1 l hl
    refine WS.sel [7, 6, 5, 4, 1, 0] hl ?_
    iterate 2 refine fst1_ok X (dk rfl) rfl ?_
    refine getf_ok X flX2_18 (dk rfl) g1 rfl ?_
    refine br_ok X (dk rfl) rfl (show ((58 : Nat) : Int) + 43 = ((101 : Nat) : Int) from rfl) (fun _ => ?_) (fun q => absurd hlt q)
    iterate 2 refine fst1_ok X (dk rfl) rfl ?_
    refine getf_ok X flX2_18 (dk rfl) g1 rfl ?_
    iterate 2 refine fst1_ok X (dk rfl) rfl ?_
    rw [nI_add]
    refine putf_ok X flX2_18 ftX2_2 (Or.inl rfl) rfl rfl (dk rfl) g1 (Nat.le_of_ble_eq_true rfl) ?_
    have el : (ps ++ (kdL X1 u1 u2 (ga X1 u1) 0).reverse).length = ps.length + ga X1 u1 := by rw [List.length_append, List.length_reverse, kdL_len]
    have key : ∀ (zs : List Int32) (pj : Nat × Nat → Int32) (kk : Nat → Nat), zs.length = 128 → zs.take ps.length = ps.map pj → (∀ t, t < ga X1 u1 → zs[ps.length + ga X1 u1 - 1 - t]? = some (nI (kk t))) → (∀ t, pj (ko X1 u1 t, ko X1 u2 t) = nI (kk t)) → zs.take (ps.length + ga X1 u1) = (ps ++ (kdL X1 u1 u2 (ga X1 u1) 0).reverse).map pj := by
      intro zs pj kk k1 k2 k3 k4
      apply List.ext_getElem?
      intro j
      rw [List.map_append]
      rcases Nat.lt_or_ge j ps.length with c1 | c1
      · rw [List.getElem?_append_left (by rw [List.length_map]; exact c1), List.getElem?_take_of_lt (by omega), ← k2, List.getElem?_take_of_lt c1]
      · rcases Nat.lt_or_ge j (ps.length + ga X1 u1) with c2 | c2
        · rw [List.getElem?_append_right (by rw [List.length_map]; exact c1), List.length_map, List.getElem?_take_of_lt c2, List.getElem?_map, List.getElem?_reverse (by rw [kdL_len]; omega), kdL_len, kdL_get X1 u1 u2 _ 0 _ (by omega), Nat.zero_add]
          have k5 := k3 (ga X1 u1 - 1 - (j - ps.length)) (by omega)
          rw [show ps.length + ga X1 u1 - 1 - (ga X1 u1 - 1 - (j - ps.length)) = j by omega] at k5
          rw [k5, Option.map_some, k4]
        · rw [List.getElem?_eq_none (by rw [List.length_take]; omega), List.getElem?_eq_none (by rw [List.length_append, List.length_map, List.length_map, List.length_reverse, kdL_len]; omega)]
    exact retv_ok X hr hlk (dk rfl) ⟨rfl, ⟨by rw [el]; omega, fun z hz => (List.mem_append.mp hz).elim (hw2 z) (fun k => by have := kdL_in hX hu1 hu2 hg z (List.mem_reverse.mp k); omega), by rw [el]; exact hup_self _ _ _, ⟨xs, by rw [hup_ne _ _ (k_ne g2 g1 (by decide))]; exact g2, g3, by rw [el]; exact key xs (fun q => nI q.1) (ko X1 u1) g3 g4 (fun t ht => (g8 t ht).1) (fun t => rfl)⟩, ys, by rw [hup_ne _ _ (k_ne g5 g1 (by decide))]; exact g5, g6, by rw [el]; exact key ys (fun q => nI q.2) (ko X1 u2) g6 g7 (fun t ht => (g8 t ht).2) (fun t => rfl)⟩, f1.set (Or.inl rfl) _⟩ (Nat.le_of_ble_eq_true rfl) (Nat.le_of_ble_eq_true rfl)
  have loop : ∀ (u j : Nat) (h1 : AH) (xs ys : List Int32), u + 1 + j = ga X1 u1 → TS B Q h1 F → h1 pb = some (4, [.ref a1, .ref a2, vI ps.length]) → h1 a1 = some (107, xs.map Value.int) → xs.length = 128 → xs.take ps.length = ps.map (fun q => nI q.1) → h1 a2 = some (107, ys.map Value.int) → ys.length = 128 → ys.take ps.length = ps.map (fun q => nI q.2) → (∀ t, t < j → xs[ps.length + ga X1 u1 - 1 - t]? = some (nI (ko X1 u1 t)) ∧ ys[ps.length + ga X1 u1 - 1 - t]? = some (nI (ko X1 u2 t))) → FrP pb a1 a2 h h1 → ∀ l : List (Nat × Value), lsel l [7, 6, 5, 4, 1, 0] = [(7, vI (ps.length + u)), (6, vI (ko X1 u2 j)), (5, vI (ko X1 u1 j)), (4, vI (ga X1 u1)), (1, .ref (B i)), (0, .ref pb)] → WR p la e (rmD 2 0 0) s m args below meth c D cA B0 8 (PP pb a1 a2 (ps ++ (kdL X1 u1 u2 (ga X1 u1) 0).reverse) h) 52 l [] h1 0 0 := by
    intro u
    induction u with
    | zero =>
      intro j h1 xs ys hj S1 g1 g2 g3 g4 g5 g6 g7 g8 f1 l hl
      obtain ⟨p1, p2, p3, p4, p5⟩ := ko_mono hX hu1 (j := j) (by omega)
      obtain ⟨q1, q2, q3, q4, q5⟩ := ko_mono hX hu2 (j := j) (by omega)
      have es : ps.length + ga X1 u1 - 1 - j = ps.length + 0 := by omega
      refine WS.sel [7, 6, 5, 4, 1, 0] hl ?_
      iterate 2 refine fst1_ok X (dk rfl) rfl ?_
      refine getf_ok X flX2_18 (dk rfl) g1 rfl ?_
      refine br_ok X (dk rfl) rfl (show ((58 : Nat) : Int) + 43 = ((101 : Nat) : Int) from rfl) (fun q => absurd q (Int32.not_lt.mpr ((nI_leI (by omega) (by omega)).mpr (by omega)))) (fun _ => ?_)
      refine fst1_ok X (dk rfl) rfl ?_
      refine getf_ok X flX2_11 (dk rfl) g1 rfl ?_
      iterate 2 refine fst1_ok X (dk rfl) rfl ?_
      refine ast7_ok X (dk rfl) g2 (nI_pos (by omega)) (by rw [nI_clamp (by omega)]; omega) ?_
      rw [nI_clamp (by omega)]
      have g1a : hup h1 a1 (107, (xs.set (ps.length + 0) (nI (ko X1 u1 j))).map Value.int) pb = some (4, [.ref a1, .ref a2, vI ps.length]) := by rw [hup_ne _ _ (k_ne g1 g2 (by decide))]; exact g1
      have g5a : hup h1 a1 (107, (xs.set (ps.length + 0) (nI (ko X1 u1 j))).map Value.int) a2 = some (107, ys.map Value.int) := by rw [hup_ne _ _ (Ne.symm ha)]; exact g5
      refine fst1_ok X (dk rfl) rfl ?_
      refine getf_ok X flX2_15 (dk rfl) g1a rfl ?_
      iterate 2 refine fst1_ok X (dk rfl) rfl ?_
      refine ast7_ok X (dk rfl) g5a (nI_pos (by omega)) (by rw [nI_clamp (by omega)]; omega) ?_
      rw [nI_clamp (by omega)]
      have f2 : FrP pb a1 a2 h1 (hup (hup h1 a1 (107, (xs.set (ps.length + 0) (nI (ko X1 u1 j))).map Value.int)) a2 (107, (ys.set (ps.length + 0) (nI (ko X1 u2 j))).map Value.int)) := ((FrP.rf h1).set (Or.inr (Or.inl rfl)) _).set (Or.inr (Or.inr rfl)) _
      have S2 := S1.frP f2 g1 g2 g5 hA
      have n1 : (hup (hup h1 a1 (107, (xs.set (ps.length + 0) (nI (ko X1 u1 j))).map Value.int)) a2 (107, (ys.set (ps.length + 0) (nI (ko X1 u2 j))).map Value.int)) pb = some (4, [.ref a1, .ref a2, vI ps.length]) := by rw [hup_ne _ _ (k_ne g1 g5 (by decide))]; exact g1a
      have n2 : (hup (hup h1 a1 (107, (xs.set (ps.length + 0) (nI (ko X1 u1 j))).map Value.int)) a2 (107, (ys.set (ps.length + 0) (nI (ko X1 u2 j))).map Value.int)) a1 = some (107, (xs.set (ps.length + 0) (nI (ko X1 u1 j))).map Value.int) := by rw [hup_ne _ _ ha, hup_self]
      have n5 : (hup (hup h1 a1 (107, (xs.set (ps.length + 0) (nI (ko X1 u1 j))).map Value.int)) a2 (107, (ys.set (ps.length + 0) (nI (ko X1 u2 j))).map Value.int)) a2 = some (107, (ys.set (ps.length + 0) (nI (ko X1 u2 j))).map Value.int) := hup_self _ _ _
      have n8 : ∀ t, t < j + 1 → (xs.set (ps.length + 0) (nI (ko X1 u1 j)))[ps.length + ga X1 u1 - 1 - t]? = some (nI (ko X1 u1 t)) ∧ (ys.set (ps.length + 0) (nI (ko X1 u2 j)))[ps.length + ga X1 u1 - 1 - t]? = some (nI (ko X1 u2 t)) := fun t ht => by
        by_cases et : t = j
        · subst et
          rw [es, List.getElem?_set_self (by omega), List.getElem?_set_self (by omega)]
          exact ⟨rfl, rfl⟩
        · rw [List.getElem?_set_ne (by omega), List.getElem?_set_ne (by omega)]
          exact g8 t (by omega)
      iterate 2 refine fst1_ok X (dk rfl) rfl ?_
      refine callVR_ok (ci := 7) (T := TX5) (N := 3) (av := [vI (ko X1 u1 j)]) (r := []) X E (s5_endOf _ S2 hi hN (bx_tl hX p5).1) lkX5_endOf mlX2_31 lmX5_endOf lpX5_endOf ⟨Nat.le_of_ble_eq_true rfl, Nat.le_of_ble_eq_true rfl⟩ ⟨Nat.le_of_ble_eq_true rfl, Nat.le_of_ble_eq_true rfl⟩ rfl ⟨_, (S2 i hi).2.1⟩ (Nat.le_of_ble_eq_true rfl) (dk rfl) ?_
      rintro _ rfl
      iterate 3 refine fst1_ok X (dk rfl) rfl ?_
      refine callVR_ok (ci := 7) (T := TX5) (N := 3) (av := [vI (ko X1 u2 j)]) (r := []) X E (s5_endOf _ S2 hi hN (bx_tl hX q5).1) lkX5_endOf mlX2_31 lmX5_endOf lpX5_endOf ⟨Nat.le_of_ble_eq_true rfl, Nat.le_of_ble_eq_true rfl⟩ ⟨Nat.le_of_ble_eq_true rfl, Nat.le_of_ble_eq_true rfl⟩ rfl ⟨_, (S2 i hi).2.1⟩ (Nat.le_of_ble_eq_true rfl) (dk rfl) ?_
      rintro _ rfl
      iterate 2 refine fst1_ok X (dk rfl) rfl ?_
      refine br_ok X (dk rfl) rfl (show ((98 : Nat) : Int) + (-46) = ((52 : Nat) : Int) from rfl) (fun _ => ?_) (fun q => absurd trivial q)
      exact fin _ _ _ _ _ _ (by rw [Nat.add_zero]; exact dec_lt (by omega)) n1 n2 (by rw [List.length_set]; exact g3) (by rw [List.take_set, List.set_eq_of_length_le (by rw [List.length_take]; omega)]; exact g4) n5 (by rw [List.length_set]; exact g6) (by rw [List.take_set, List.set_eq_of_length_le (by rw [List.length_take]; omega)]; exact g7) (fun t ht => n8 t (by omega)) (f1.trans f2) _ rfl
    | succ u ih =>
      intro j h1 xs ys hj S1 g1 g2 g3 g4 g5 g6 g7 g8 f1 l hl
      obtain ⟨p1, p2, p3, p4, p5⟩ := ko_mono hX hu1 (j := j) (by omega)
      obtain ⟨q1, q2, q3, q4, q5⟩ := ko_mono hX hu2 (j := j) (by omega)
      have es : ps.length + ga X1 u1 - 1 - j = ps.length + (u + 1) := by omega
      refine WS.sel [7, 6, 5, 4, 1, 0] hl ?_
      iterate 2 refine fst1_ok X (dk rfl) rfl ?_
      refine getf_ok X flX2_18 (dk rfl) g1 rfl ?_
      refine br_ok X (dk rfl) rfl (show ((58 : Nat) : Int) + 43 = ((101 : Nat) : Int) from rfl) (fun q => absurd q (Int32.not_lt.mpr ((nI_leI (by omega) (by omega)).mpr (by omega)))) (fun _ => ?_)
      refine fst1_ok X (dk rfl) rfl ?_
      refine getf_ok X flX2_11 (dk rfl) g1 rfl ?_
      iterate 2 refine fst1_ok X (dk rfl) rfl ?_
      refine ast7_ok X (dk rfl) g2 (nI_pos (by omega)) (by rw [nI_clamp (by omega)]; omega) ?_
      rw [nI_clamp (by omega)]
      have g1a : hup h1 a1 (107, (xs.set (ps.length + (u + 1)) (nI (ko X1 u1 j))).map Value.int) pb = some (4, [.ref a1, .ref a2, vI ps.length]) := by rw [hup_ne _ _ (k_ne g1 g2 (by decide))]; exact g1
      have g5a : hup h1 a1 (107, (xs.set (ps.length + (u + 1)) (nI (ko X1 u1 j))).map Value.int) a2 = some (107, ys.map Value.int) := by rw [hup_ne _ _ (Ne.symm ha)]; exact g5
      refine fst1_ok X (dk rfl) rfl ?_
      refine getf_ok X flX2_15 (dk rfl) g1a rfl ?_
      iterate 2 refine fst1_ok X (dk rfl) rfl ?_
      refine ast7_ok X (dk rfl) g5a (nI_pos (by omega)) (by rw [nI_clamp (by omega)]; omega) ?_
      rw [nI_clamp (by omega)]
      have f2 : FrP pb a1 a2 h1 (hup (hup h1 a1 (107, (xs.set (ps.length + (u + 1)) (nI (ko X1 u1 j))).map Value.int)) a2 (107, (ys.set (ps.length + (u + 1)) (nI (ko X1 u2 j))).map Value.int)) := ((FrP.rf h1).set (Or.inr (Or.inl rfl)) _).set (Or.inr (Or.inr rfl)) _
      have S2 := S1.frP f2 g1 g2 g5 hA
      have n1 : (hup (hup h1 a1 (107, (xs.set (ps.length + (u + 1)) (nI (ko X1 u1 j))).map Value.int)) a2 (107, (ys.set (ps.length + (u + 1)) (nI (ko X1 u2 j))).map Value.int)) pb = some (4, [.ref a1, .ref a2, vI ps.length]) := by rw [hup_ne _ _ (k_ne g1 g5 (by decide))]; exact g1a
      have n2 : (hup (hup h1 a1 (107, (xs.set (ps.length + (u + 1)) (nI (ko X1 u1 j))).map Value.int)) a2 (107, (ys.set (ps.length + (u + 1)) (nI (ko X1 u2 j))).map Value.int)) a1 = some (107, (xs.set (ps.length + (u + 1)) (nI (ko X1 u1 j))).map Value.int) := by rw [hup_ne _ _ ha, hup_self]
      have n5 : (hup (hup h1 a1 (107, (xs.set (ps.length + (u + 1)) (nI (ko X1 u1 j))).map Value.int)) a2 (107, (ys.set (ps.length + (u + 1)) (nI (ko X1 u2 j))).map Value.int)) a2 = some (107, (ys.set (ps.length + (u + 1)) (nI (ko X1 u2 j))).map Value.int) := hup_self _ _ _
      have n8 : ∀ t, t < j + 1 → (xs.set (ps.length + (u + 1)) (nI (ko X1 u1 j)))[ps.length + ga X1 u1 - 1 - t]? = some (nI (ko X1 u1 t)) ∧ (ys.set (ps.length + (u + 1)) (nI (ko X1 u2 j)))[ps.length + ga X1 u1 - 1 - t]? = some (nI (ko X1 u2 t)) := fun t ht => by
        by_cases et : t = j
        · subst et
          rw [es, List.getElem?_set_self (by omega), List.getElem?_set_self (by omega)]
          exact ⟨rfl, rfl⟩
        · rw [List.getElem?_set_ne (by omega), List.getElem?_set_ne (by omega)]
          exact g8 t (by omega)
      iterate 2 refine fst1_ok X (dk rfl) rfl ?_
      refine callVR_ok (ci := 7) (T := TX5) (N := 3) (av := [vI (ko X1 u1 j)]) (r := []) X E (s5_endOf _ S2 hi hN (bx_tl hX p5).1) lkX5_endOf mlX2_31 lmX5_endOf lpX5_endOf ⟨Nat.le_of_ble_eq_true rfl, Nat.le_of_ble_eq_true rfl⟩ ⟨Nat.le_of_ble_eq_true rfl, Nat.le_of_ble_eq_true rfl⟩ rfl ⟨_, (S2 i hi).2.1⟩ (Nat.le_of_ble_eq_true rfl) (dk rfl) ?_
      rintro _ rfl
      iterate 3 refine fst1_ok X (dk rfl) rfl ?_
      refine callVR_ok (ci := 7) (T := TX5) (N := 3) (av := [vI (ko X1 u2 j)]) (r := []) X E (s5_endOf _ S2 hi hN (bx_tl hX q5).1) lkX5_endOf mlX2_31 lmX5_endOf lpX5_endOf ⟨Nat.le_of_ble_eq_true rfl, Nat.le_of_ble_eq_true rfl⟩ ⟨Nat.le_of_ble_eq_true rfl, Nat.le_of_ble_eq_true rfl⟩ rfl ⟨_, (S2 i hi).2.1⟩ (Nat.le_of_ble_eq_true rfl) (dk rfl) ?_
      rintro _ rfl
      iterate 2 refine fst1_ok X (dk rfl) rfl ?_
      refine br_ok X (dk rfl) rfl (show ((98 : Nat) : Int) + (-46) = ((52 : Nat) : Int) from rfl) (fun _ => ?_) (fun q => absurd trivial q)
      refine WS.sel (l' := [(7, vI (ps.length + u)), (6, vI (ko X1 u2 (j + 1))), (5, vI (ko X1 u1 (j + 1))), (4, vI (ga X1 u1)), (1, .ref (B i)), (0, .ref pb)]) [7, 6, 5, 4, 1, 0] (by rw [show vI (ps.length + u) = Value.int (nI (ps.length + (u + 1)) + Int32.ofInt (-1)) from congrArg Value.int (nI_dec _).symm]; rfl) ?_
      exact ih (j + 1) _ _ _ (by omega) S2 n1 n2 (by rw [List.length_set]; exact g3) (by rw [List.take_set, List.set_eq_of_length_le (by rw [List.length_take]; omega)]; exact g4) n5 (by rw [List.length_set]; exact g6) (by rw [List.take_set, List.set_eq_of_length_le (by rw [List.length_take]; omega)]; exact g7) n8 (f1.trans f2) _ rfl
  iterate 2 refine fst1_ok X (dk rfl) rfl ?_
  refine callVR_ok (ci := 7) (T := TX5) (N := 3) (av := [vI u1]) (r := []) X E (s5_letterAt h S hi (nI u1)) lkX5_letterAt mlX2_22 lmX5_letterAt lpX5_letterAt ⟨Nat.le_of_ble_eq_true rfl, Nat.le_of_ble_eq_true rfl⟩ ⟨Nat.le_of_ble_eq_true rfl, Nat.le_of_ble_eq_true rfl⟩ rfl ⟨_, (S i hi).2.1⟩ (Nat.le_of_ble_eq_true rfl) (dk rfl) ?_
  rintro _ rfl
  rw [hN.lt hgx (by omega)]
  refine callNR_ok (av := [vI (gl X1 u1)]) (r := []) X E (s6_partsOf h hyx) lkX6_partsOf mnX2_28 lsX6_partsOf ⟨Nat.le_of_ble_eq_true rfl, Nat.le_of_ble_eq_true rfl⟩ ⟨Nat.le_of_ble_eq_true rfl, Nat.le_of_ble_eq_true rfl⟩ (Nat.le_of_ble_eq_true rfl) (dk rfl) ?_
  rintro _ rfl
  rw [show pF (gl X1 u1) = ga X1 u1 from rfl]
  iterate 2 refine fst1_ok X (dk rfl) rfl ?_
  refine getf_ok X flX2_18 (dk rfl) hw3 rfl ?_
  refine br_ok X (dk rfl) rfl (show ((14 : Nat) : Int) + 16 = ((30 : Nat) : Int) from rfl) (fun q => absurd q (nI_pos (by omega))) (fun _ => ?_)
  refine fst1_ok X (dk rfl) rfl ?_
  refine getf_ok X flX2_18 (dk rfl) hw3 rfl ?_
  iterate 3 refine fst1_ok X (dk rfl) rfl ?_
  rw [nI_add]
  refine br_ok X (dk rfl) rfl (show ((27 : Nat) : Int) + 4 = ((31 : Nat) : Int) from rfl) (fun _ => ?_) (fun q => absurd (by rw [show (Int16.ofInt 128).toInt32 = nI 128 by decide +kernel]; exact (nI_leI (by omega) (by omega)).mpr (by omega)) q)
  iterate 9 refine fst1_ok X (dk rfl) rfl ?_
  refine getf_ok X flX2_18 (dk rfl) hw3 rfl ?_
  iterate 5 refine fst1_ok X (dk rfl) rfl ?_
  have k0 : ∀ z : Nat, Value.int (nI z + Int32.ofInt 1) = vI (ko X1 z 0) := fun z => congrArg Value.int (by rw [nI_1', nI_add]; rfl)
  rcases Nat.eq_zero_or_pos (ga X1 u1) with hz | hz
  · refine WS.sel (l' := [(7, .int (nI ps.length + nI (ga X1 u1) - Int32.ofInt 1)), (6, vI (ko X1 u2 0)), (5, vI (ko X1 u1 0)), (4, vI (ga X1 u1)), (1, .ref (B i)), (0, .ref pb)]) [7, 6, 5, 4, 1, 0] (by rw [← k0, ← k0]; rfl) ?_
    refine fin h xs ys _ _ _ ?_ hw3 x1 x2 x3 y1 y2 y3 (fun t ht => absurd ht (by omega)) (FrP.rf h) _ rfl
    rw [hz, nI_add, Nat.add_zero]
    exact sub_lt (by omega)
  · refine WS.sel (l' := [(7, vI (ps.length + (ga X1 u1 - 1))), (6, vI (ko X1 u2 0)), (5, vI (ko X1 u1 0)), (4, vI (ga X1 u1)), (1, .ref (B i)), (0, .ref pb)]) [7, 6, 5, 4, 1, 0] (by rw [← k0, ← k0, show vI (ps.length + (ga X1 u1 - 1)) = Value.int (nI ps.length + nI (ga X1 u1) - Int32.ofInt 1) from congrArg Value.int (by rw [nI_add, nI_1', nI_sub (by omega), Nat.add_sub_assoc hz])]; rfl) ?_
    exact loop (ga X1 u1 - 1) 0 h xs ys (by omega) S hw3 x1 x2 x3 y1 y2 y3 (fun t ht => absurd ht (Nat.not_lt_zero t)) (FrP.rf h) _ rfl
set_option maxHeartbeats 16000000 in
theorem s4_lookedUp (h : AH) {X1 : List Nat} {Sx : SS} (T : STP B Q P h F X1 Sx ps tk en) (hX : BX X1) (hS : S1 X1 Sx) {u1 : Nat} (hu1 : u1 < X1.length) : CT la D cA B0 pa yX4_lookedUp cX4_lookedUp 5 (some .int) (rmD 1 0 0) [.ref (P 4), vI u1] h (RP (vI (dp X1 Sx u1)) h) := by
  refine CT_of (by decide +kernel) (Nat.le_of_ble_eq_true rfl) ?_
  intro p e s m args below meth c X E hr hlk hnm
  have dk : ∀ {pc : Nat} {q : Instr × Nat}, lkd DX4_lookedUp pc = some q → decode cX4_lookedUp pc = .ok q := lkd_ok DX4_lookedUp_ok
  obtain ⟨t1, t2, t3, ⟨row, r1, r2, r3⟩, t5⟩ := id T
  have hX32 := hX.2.2
  have loop : ∀ (u k z : Nat), u + k = 8 → z < X1.length → dpF X1 Sx u z = dp X1 Sx u1 → ∀ l : List (Nat × Value), lsel l [3, 2, 0] = [(3, vI k), (2, vI z), (0, .ref (P 4))] → WR p la e (rmD 1 0 0) s m args below meth c D cA B0 5 (RP (vI (dp X1 Sx u1)) h) 4 l [] h 0 0 := by
    intro u
    induction u with
    | zero =>
      intro k z hk hz hd l hl
      have hk8 : k = 8 := by omega
      subst hk8
      have ez : z = dp X1 Sx u1 := hd
      refine WS.sel [3, 2, 0] hl ?_
      iterate 2 refine fst1_ok X (dk rfl) rfl ?_
      refine br_ok X (dk rfl) rfl (show ((7 : Nat) : Int) + 48 = ((55 : Nat) : Int) from rfl) (fun _ => ?_) (fun q => absurd (by rw [nI_8']; exact Int32.le_refl _) q)
      refine fst1_ok X (dk rfl) rfl ?_
      exact reti_ok X hr hlk rfl (dk rfl) (⟨by rw [← ez]; rfl, rfl⟩) (Nat.le_of_ble_eq_true rfl) (Nat.le_of_ble_eq_true rfl)
    | succ u ih =>
      intro k z hk hz hd l hl
      have hgz := gl_get hz
      have hok := gl_ok hX hz
      have hyx := hok.lt
      rw [dpF] at hd
      refine WS.sel [3, 2, 0] hl ?_
      iterate 2 refine fst1_ok X (dk rfl) rfl ?_
      refine br_ok X (dk rfl) rfl (show ((7 : Nat) : Int) + 48 = ((55 : Nat) : Int) from rfl) (fun q => absurd q (by rw [nI_8']; exact nI_ge (by omega) (by omega))) (fun _ => ?_)
      refine fst1_ok X (dk rfl) rfl ?_
      refine getf_ok X flX4_14 (dk rfl) t3 rfl ?_
      refine fst1_ok X (dk rfl) rfl ?_
      refine callVR_ok (ci := 7) (T := TX5) (N := 3) (av := [vI z]) (r := []) X E (s5_letterAt h t1 (i := 50) (by omega) (nI z)) lkX5_letterAt mlX4_83 lmX5_letterAt lpX5_letterAt ⟨Nat.le_of_ble_eq_true rfl, Nat.le_of_ble_eq_true rfl⟩ ⟨Nat.le_of_ble_eq_true rfl, Nat.le_of_ble_eq_true rfl⟩ rfl ⟨_, (t1 50 (by omega)).2.1⟩ (Nat.le_of_ble_eq_true rfl) (dk rfl) ?_
      rintro _ rfl
      rw [t2.lt hgz (by omega)]
      iterate 2 refine fst1_ok X (dk rfl) rfl ?_
      refine callNR_ok (av := [vI (gl X1 z)]) (r := []) X E (s6_isName h (x := gl X1 z) (by omega)) lkX6_isName mnX4_86 lsX6_isName ⟨Nat.le_of_ble_eq_true rfl, Nat.le_of_ble_eq_true rfl⟩ ⟨Nat.le_of_ble_eq_true rfl, Nat.le_of_ble_eq_true rfl⟩ (Nat.le_of_ble_eq_true rfl) (dk rfl) ?_
      rintro _ rfl
      by_cases h8 : gl X1 z < 8
      · rw [decide_eq_true h8]
        rw [if_pos (by omega)] at hd
        refine br_ok X (dk rfl) rfl (show ((25 : Nat) : Int) + 14 = ((39 : Nat) : Int) from rfl) (fun q => absurd q bI_t) (fun _ => ?_)
        refine fst1_ok X (dk rfl) rfl ?_
        refine getf_ok X flX4_20 (dk rfl) t3 rfl ?_
        refine fst1_ok X (dk rfl) rfl ?_
        refine ald7v_ok X (dk rfl) r1 (nI_pos (by omega)) (by rw [nI_clamp (by omega)]; exact r3 _ h8) ?_
        refine fst1_ok X (dk rfl) rfl ?_
        cases es : Sx (gl X1 z) with
        | none =>
          rw [es] at hd
          have ez : z = dp X1 Sx u1 := hd
          rw [pI_none]
          refine br_ok X (dk rfl) rfl (show ((36 : Nat) : Int) + 5 = ((41 : Nat) : Int) from rfl) (fun q => absurd rfl q) (fun _ => ?_)
          refine fst1_ok X (dk rfl) rfl ?_
          exact reti_ok X hr hlk rfl (dk rfl) (⟨by rw [← ez]; rfl, rfl⟩) (Nat.le_of_ble_eq_true rfl) (Nat.le_of_ble_eq_true rfl)
        | some q =>
          rw [es] at hd
          have hql := (hS _ q es).2.1
          rw [pI_some]
          refine br_ok X (dk rfl) rfl (show ((36 : Nat) : Int) + 5 = ((41 : Nat) : Int) from rfl) (fun _ => ?_) (fun q => absurd (nI_m1 (by omega)) q)
          refine fst1_ok X (dk rfl) rfl ?_
          refine getf_ok X flX4_20 (dk rfl) t3 rfl ?_
          refine fst1_ok X (dk rfl) rfl ?_
          refine ald7v_ok X (dk rfl) r1 (nI_pos (by omega)) (by rw [nI_clamp (by omega)]; exact r3 _ h8) ?_
          rw [es, pI_some]
          iterate 2 refine fst1_ok X (dk rfl) rfl ?_
          refine br_ok X (dk rfl) rfl (show ((52 : Nat) : Int) + (-48) = ((4 : Nat) : Int) from rfl) (fun _ => ?_) (fun q => absurd trivial q)
          have f2 : Value.int (nI k + Int32.ofInt 1) = vI (k + 1) := congrArg Value.int (by rw [nI_1', nI_add])
          refine WS.sel (l' := [(3, vI (k + 1)), (2, vI q), (0, .ref (P 4))]) [3, 2, 0] (by rw [← f2]; rfl) ?_
          exact ih (k + 1) q (by omega) hql hd _ rfl
      · rw [decide_eq_false h8]
        rw [if_neg (by rcases hok with z | z <;> omega)] at hd
        have ez : z = dp X1 Sx u1 := hd
        refine br_ok X (dk rfl) rfl (show ((25 : Nat) : Int) + 14 = ((39 : Nat) : Int) from rfl) (fun _ => ?_) (fun q => absurd bI_f' q)
        refine fst1_ok X (dk rfl) rfl ?_
        exact reti_ok X hr hlk rfl (dk rfl) (⟨by rw [← ez]; rfl, rfl⟩) (Nat.le_of_ble_eq_true rfl) (Nat.le_of_ble_eq_true rfl)
  iterate 4 refine fst1_ok X (dk rfl) rfl ?_
  refine loop 8 0 u1 rfl hu1 ?_ _ rfl
  exact dpF_ext hS 8 9 u1 (fun z => by have := gl_8 hX hu1 z; omega)
/-- a method of the steps: what stands for names afterwards, which pairs wait, the counters -/
def SQ (B Q P : Nat → Nat) (F : Nat → TC) (X : List Nat) (S : SS) (ps : PL2) (tk en : Int32) (h : AH) (v : Option Value) (h' : AH) : Prop := v = none ∧ STP B Q P h' F X S ps tk en ∧ FrU B Q (LSt P Q) h h'
set_option maxHeartbeats 16000000 in
theorem s4_joinNames (h : AH) (Y : LYO B Q) {X1 : List Nat} {Sx : SS} (T : STP B Q P h F X1 Sx ps tk en) (hX : BX X1) (hS : S1 X1 Sx) {u1 u2 : Nat} (hu1 : u1 < X1.length) (hu2 : u2 < X1.length) (hn1 : gl X1 u1 < 8) (hn2 : gl X1 u2 < 8) : CT la D cA B0 pa yX4_joinNames cX4_joinNames 5 none (rmD 1 0 0) [.ref (P 4), vI u1, vI u2] h (SQ B Q P F X1 (if gl X1 u2 < gl X1 u1 then upS Sx (gl X1 u1) u2 else if gl X1 u1 < gl X1 u2 then upS Sx (gl X1 u2) u1 else Sx) ps tk en h) := by
  refine CT_of (by decide +kernel) (Nat.le_of_ble_eq_true rfl) ?_
  intro p e s m args below meth c X E hr hlk hnm
  have dk : ∀ {pc : Nat} {q : Instr × Nat}, lkd DX4_joinNames pc = some q → decode cX4_joinNames pc = .ok q := lkd_ok DX4_joinNames_ok
  obtain ⟨t1, t2, t3, -, t5⟩ := id T
  have hX32 := hX.2.2
  have hg1 := gl_get hu1
  have hg2 := gl_get hu2
  have hL : Q 60 ∈ LSt P Q := List.mem_cons_of_mem _ List.mem_cons_self
  refine fst1_ok X (dk rfl) rfl ?_
  refine getf_ok X flX4_14 (dk rfl) t3 rfl ?_
  refine fst1_ok X (dk rfl) rfl ?_
  refine callVR_ok (ci := 7) (T := TX5) (N := 3) (av := [vI u1]) (r := []) X E (s5_letterAt h t1 (i := 50) (by omega) (nI u1)) lkX5_letterAt mlX4_83 lmX5_letterAt lpX5_letterAt ⟨Nat.le_of_ble_eq_true rfl, Nat.le_of_ble_eq_true rfl⟩ ⟨Nat.le_of_ble_eq_true rfl, Nat.le_of_ble_eq_true rfl⟩ rfl ⟨_, (t1 50 (by omega)).2.1⟩ (Nat.le_of_ble_eq_true rfl) (dk rfl) ?_
  rintro _ rfl
  rw [t2.lt hg1 (by omega)]
  iterate 2 refine fst1_ok X (dk rfl) rfl ?_
  refine getf_ok X flX4_14 (dk rfl) t3 rfl ?_
  refine fst1_ok X (dk rfl) rfl ?_
  refine callVR_ok (ci := 7) (T := TX5) (N := 3) (av := [vI u2]) (r := []) X E (s5_letterAt h t1 (i := 50) (by omega) (nI u2)) lkX5_letterAt mlX4_83 lmX5_letterAt lpX5_letterAt ⟨Nat.le_of_ble_eq_true rfl, Nat.le_of_ble_eq_true rfl⟩ ⟨Nat.le_of_ble_eq_true rfl, Nat.le_of_ble_eq_true rfl⟩ rfl ⟨_, (t1 50 (by omega)).2.1⟩ (Nat.le_of_ble_eq_true rfl) (dk rfl) ?_
  rintro _ rfl
  rw [t2.lt hg2 (by omega)]
  iterate 2 refine fst1_ok X (dk rfl) rfl ?_
  refine callNR_ok (av := [vI (gl X1 u1)]) (r := []) X E (s6_isName h (x := gl X1 u1) (by omega)) lkX6_isName mnX4_86 lsX6_isName ⟨Nat.le_of_ble_eq_true rfl, Nat.le_of_ble_eq_true rfl⟩ ⟨Nat.le_of_ble_eq_true rfl, Nat.le_of_ble_eq_true rfl⟩ (Nat.le_of_ble_eq_true rfl) (dk rfl) ?_
  rintro _ rfl
  rw [decide_eq_true hn1]
  refine br_ok X (dk rfl) rfl (show ((23 : Nat) : Int) + 19 = ((42 : Nat) : Int) from rfl) (fun q => absurd q bI_t) (fun _ => ?_)
  iterate 2 refine fst1_ok X (dk rfl) rfl ?_
  by_cases c1 : gl X1 u2 < gl X1 u1
  · obtain ⟨row, r1, r2, r3, T2⟩ := T.row Y (x := gl X1 u1) (t := u2) hn1
    refine br_ok X (dk rfl) rfl (show ((29 : Nat) : Int) + 13 = ((42 : Nat) : Int) from rfl) (fun q => absurd q (Int32.not_le.mpr ((nI_ltI (by omega) (by omega)).mpr c1))) (fun _ => ?_)
    refine fst1_ok X (dk rfl) rfl ?_
    refine getf_ok X flX4_20 (dk rfl) t3 rfl ?_
    iterate 2 refine fst1_ok X (dk rfl) rfl ?_
    refine ast7_ok X (dk rfl) r1 (nI_pos (by omega)) (by rw [nI_clamp (by omega)]; omega) ?_
    rw [nI_clamp (by omega)]
    refine br_ok X (dk rfl) rfl (show ((39 : Nat) : Int) + 25 = ((64 : Nat) : Int) from rfl) (fun _ => ?_) (fun q => absurd trivial q)
    exact retv_ok X hr hlk (dk rfl) (⟨rfl, by rw [if_pos c1]; exact T2, (FrU.rf h).set hL _⟩) (Nat.le_of_ble_eq_true rfl) (Nat.le_of_ble_eq_true rfl)
  · refine br_ok X (dk rfl) rfl (show ((29 : Nat) : Int) + 13 = ((42 : Nat) : Int) from rfl) (fun _ => ?_) (fun q => absurd ((nI_leI (by omega) (by omega)).mpr (by omega)) q)
    refine fst1_ok X (dk rfl) rfl ?_
    refine callNR_ok (av := [vI (gl X1 u2)]) (r := []) X E (s6_isName h (x := gl X1 u2) (by omega)) lkX6_isName mnX4_86 lsX6_isName ⟨Nat.le_of_ble_eq_true rfl, Nat.le_of_ble_eq_true rfl⟩ ⟨Nat.le_of_ble_eq_true rfl, Nat.le_of_ble_eq_true rfl⟩ (Nat.le_of_ble_eq_true rfl) (dk rfl) ?_
    rintro _ rfl
    rw [decide_eq_true hn2]
    refine br_ok X (dk rfl) rfl (show ((47 : Nat) : Int) + 17 = ((64 : Nat) : Int) from rfl) (fun q => absurd q bI_t) (fun _ => ?_)
    iterate 2 refine fst1_ok X (dk rfl) rfl ?_
    by_cases c2 : gl X1 u1 < gl X1 u2
    · obtain ⟨row, r1, r2, r3, T2⟩ := T.row Y (x := gl X1 u2) (t := u1) hn2
      refine br_ok X (dk rfl) rfl (show ((53 : Nat) : Int) + 11 = ((64 : Nat) : Int) from rfl) (fun q => absurd q (Int32.not_le.mpr ((nI_ltI (by omega) (by omega)).mpr c2))) (fun _ => ?_)
      refine fst1_ok X (dk rfl) rfl ?_
      refine getf_ok X flX4_20 (dk rfl) t3 rfl ?_
      iterate 2 refine fst1_ok X (dk rfl) rfl ?_
      refine ast7_ok X (dk rfl) r1 (nI_pos (by omega)) (by rw [nI_clamp (by omega)]; omega) ?_
      rw [nI_clamp (by omega)]
      exact retv_ok X hr hlk (dk rfl) (⟨rfl, by rw [if_neg c1, if_pos c2]; exact T2, (FrU.rf h).set hL _⟩) (Nat.le_of_ble_eq_true rfl) (Nat.le_of_ble_eq_true rfl)
    · refine br_ok X (dk rfl) rfl (show ((53 : Nat) : Int) + 11 = ((64 : Nat) : Int) from rfl) (fun _ => ?_) (fun q => absurd ((nI_leI (by omega) (by omega)).mpr (by omega)) q)
      exact retv_ok X hr hlk (dk rfl) (⟨rfl, by rw [if_neg c1, if_neg c2]; exact T, FrU.rf h⟩) (Nat.le_of_ble_eq_true rfl) (Nat.le_of_ble_eq_true rfl)
set_option maxHeartbeats 32000000 in
theorem s4_standFor (h : AH) (Y : LYO B Q) {n1 : Nat} {X1 : List Nat} {Sx : SS} (hY : BY X1 n1) (T : STP B Q P h F X1 Sx ps tk en) (hX : BX X1) (hS : S1 X1 Sx) {x t : Nat} (hx : x < 8) (ht : t < X1.length) : CT la D cA B0 pa yX4_standFor cX4_standFor 6 none (rmD 2 0 0) [.ref (P 4), vI x, vI t] h (SQ B Q P F X1 (if (isWi (smO X1 Sx) x (sub' X1 t)) then Sx else upS Sx x t) ps tk (if (isWi (smO X1 Sx) x (sub' X1 t)) then nI 2 else en) h) := by
  refine CT_of (by decide +kernel) (Nat.le_of_ble_eq_true rfl) ?_
  intro p e s m args below meth c X E hr hlk hnm
  have dk : ∀ {pc : Nat} {q : Instr × Nat}, lkd DX4_standFor pc = some q → decode cX4_standFor pc = .ok q := lkd_ok DX4_standFor_ok
  obtain ⟨t1, t2, t3, ⟨row, r1, r2, r3⟩, t5⟩ := id T
  have hX32 := hX.2.2
  obtain ⟨e1, e2, e3⟩ := bx_tl hX ht
  have hTT := smO_TT hY hS
  have hs0 : namesN (sub' X1 t) < 256 := namesN_lt (sub_TW hX ht).2
  have hL : Q 60 ∈ LSt P Q := List.mem_cons_of_mem _ List.mem_cons_self
  have hL4 : P 4 ∈ LSt P Q := List.mem_cons_self
  have last : ∀ l : List (Nat × Value), lsel l [3, 2, 1, 0] = [(3, vI (wAll (smO X1 Sx) (namesN (sub' X1 t)) 8)), (2, vI t), (1, vI x), (0, .ref (P 4))] → WR p la e (rmD 2 0 0) s m args below meth c D cA B0 6 (SQ B Q P F X1 (if (isWi (smO X1 Sx) x (sub' X1 t)) then Sx else upS Sx x t) ps tk (if (isWi (smO X1 Sx) x (sub' X1 t)) then nI 2 else en) h) 101 l [] h 0 0 := by
    intro l hl
    have h256 := wAll_lt hTT hs0 8
    refine WS.sel [3, 2, 1, 0] hl ?_
    iterate 6 refine fst1_ok X (dk rfl) rfl ?_
    rw [bit8 h256 hx]
    by_cases hb : wAll (smO X1 Sx) (namesN (sub' X1 t)) 8 >>> x % 2 = 1
    · have hw : (isWi (smO X1 Sx) x (sub' X1 t)) = true := decide_eq_true hb
      rw [hb, hw]
      refine br_ok X (dk rfl) rfl (show ((107 : Nat) : Int) + 11 = ((118 : Nat) : Int) from rfl) (fun q => absurd (by decide) q) (fun _ => ?_)
      iterate 2 refine fst1_ok X (dk rfl) rfl ?_
      refine putf_ok X flX4_56 ftX4_4 (Or.inl rfl) rfl rfl (dk rfl) t3 (Nat.le_of_ble_eq_true rfl) ?_
      refine br_ok X (dk rfl) rfl (show ((115 : Nat) : Int) + 17 = ((132 : Nat) : Int) from rfl) (fun _ => ?_) (fun q => absurd trivial q)
      exact retv_ok X hr hlk (dk rfl) (⟨rfl, by rw [if_pos rfl, if_pos rfl, show nI 2 = Int32.ofInt 2 from nI_2.symm]; exact T.fld _ _, (FrU.rf h).set hL4 _⟩) (Nat.le_of_ble_eq_true rfl) (Nat.le_of_ble_eq_true rfl)
    · have hw : (isWi (smO X1 Sx) x (sub' X1 t)) = false := decide_eq_false hb
      have h0 : wAll (smO X1 Sx) (namesN (sub' X1 t)) 8 >>> x % 2 = 0 := by
        have := Nat.mod_two_eq_zero_or_one (wAll (smO X1 Sx) (namesN (sub' X1 t)) 8 >>> x)
        omega
      rw [h0, hw]
      refine br_ok X (dk rfl) rfl (show ((107 : Nat) : Int) + 11 = ((118 : Nat) : Int) from rfl) (fun _ => ?_) (fun q => absurd (by decide) q)
      refine fst1_ok X (dk rfl) rfl ?_
      refine callNR_ok (av := [vI x]) (r := []) X E (s6_isName h (x := x) (by omega)) lkX6_isName mnX4_86 lsX6_isName ⟨Nat.le_of_ble_eq_true rfl, Nat.le_of_ble_eq_true rfl⟩ ⟨Nat.le_of_ble_eq_true rfl, Nat.le_of_ble_eq_true rfl⟩ (Nat.le_of_ble_eq_true rfl) (dk rfl) ?_
      rintro _ rfl
      rw [decide_eq_true hx]
      refine br_ok X (dk rfl) rfl (show ((122 : Nat) : Int) + 10 = ((132 : Nat) : Int) from rfl) (fun q => absurd q bI_t) (fun _ => ?_)
      refine fst1_ok X (dk rfl) rfl ?_
      refine getf_ok X flX4_20 (dk rfl) t3 rfl ?_
      iterate 2 refine fst1_ok X (dk rfl) rfl ?_
      obtain ⟨row2, q1, q2, q3, T2⟩ := T.row Y (x := x) (t := t) hx
      refine ast7_ok X (dk rfl) q1 (nI_pos (by omega)) (by rw [nI_clamp (by omega)]; omega) ?_
      rw [nI_clamp (by omega)]
      exact retv_ok X hr hlk (dk rfl) (⟨rfl, by rw [if_neg (by decide), if_neg (by decide)]; exact T2, (FrU.rf h).set hL _⟩) (Nat.le_of_ble_eq_true rfl) (Nat.le_of_ble_eq_true rfl)
  have outer : ∀ (u k : Nat), u + k = 8 → ∀ l : List (Nat × Value), lsel l [4, 3, 2, 1, 0] = [(4, vI k), (3, vI (wAll (smO X1 Sx) (namesN (sub' X1 t)) k)), (2, vI t), (1, vI x), (0, .ref (P 4))] → WR p la e (rmD 2 0 0) s m args below meth c D cA B0 6 (SQ B Q P F X1 (if (isWi (smO X1 Sx) x (sub' X1 t)) then Sx else upS Sx x t) ps tk (if (isWi (smO X1 Sx) x (sub' X1 t)) then nI 2 else en) h) 20 l [] h 0 0 := by
    intro u
    induction u with
    | zero =>
      intro k hk l hl
      have hk8 : k = 8 := by omega
      subst hk8
      refine WS.sel [4, 3, 2, 1, 0] hl ?_
      iterate 2 refine fst1_ok X (dk rfl) rfl ?_
      refine br_ok X (dk rfl) rfl (show ((24 : Nat) : Int) + 77 = ((101 : Nat) : Int) from rfl) (fun _ => ?_) (fun q => absurd (by rw [nI_8']; exact Int32.le_refl _) q)
      exact last _ rfl
    | succ u ih =>
      intro k hk l hl
      refine WS.sel [4, 3, 2, 1, 0] hl ?_
      iterate 2 refine fst1_ok X (dk rfl) rfl ?_
      refine br_ok X (dk rfl) rfl (show ((24 : Nat) : Int) + 77 = ((101 : Nat) : Int) from rfl) (fun q => absurd q (by rw [nI_8']; exact nI_ge (by omega) (by omega))) (fun _ => ?_)
      have fk : Value.int (nI k + Int32.ofInt 1) = vI (k + 1) := congrArg Value.int (by rw [nI_1', nI_add])
      have hsk := wAll_lt hTT hs0 k
      have inner : ∀ (w n : Nat), w + n = 8 → ∀ l : List (Nat × Value), lsel l [5, 4, 3, 2, 1, 0] = [(5, vI n), (4, vI k), (3, vI (wRow (smO X1 Sx) (wAll (smO X1 Sx) (namesN (sub' X1 t)) k) n)), (2, vI t), (1, vI x), (0, .ref (P 4))] → WR p la e (rmD 2 0 0) s m args below meth c D cA B0 6 (SQ B Q P F X1 (if (isWi (smO X1 Sx) x (sub' X1 t)) then Sx else upS Sx x t) ps tk (if (isWi (smO X1 Sx) x (sub' X1 t)) then nI 2 else en) h) 30 l [] h 0 0 := by
        intro w
        induction w with
        | zero =>
          intro n hn l hl
          have hn8 : n = 8 := by omega
          subst hn8
          refine WS.sel [5, 4, 3, 2, 1, 0] hl ?_
          iterate 2 refine fst1_ok X (dk rfl) rfl ?_
          refine br_ok X (dk rfl) rfl (show ((34 : Nat) : Int) + 61 = ((95 : Nat) : Int) from rfl) (fun _ => ?_) (fun q => absurd (by rw [nI_8']; exact Int32.le_refl _) q)
          refine fst1_ok X (dk rfl) rfl ?_
          refine br_ok X (dk rfl) rfl (show ((98 : Nat) : Int) + (-78) = ((20 : Nat) : Int) from rfl) (fun _ => ?_) (fun q => absurd trivial q)
          refine WS.sel (l' := [(4, vI (k + 1)), (3, vI (wAll (smO X1 Sx) (namesN (sub' X1 t)) (k + 1))), (2, vI t), (1, vI x), (0, .ref (P 4))]) [4, 3, 2, 1, 0] (by rw [← fk]; rfl) ?_
          exact ih (k + 1) (by omega) _ rfl
        | succ w ihw =>
          intro n hn l hl
          have hsn := wRow_lt hTT hsk n
          have fn : Value.int (nI n + Int32.ofInt 1) = vI (n + 1) := congrArg Value.int (by rw [nI_1', nI_add])
          have nxt : ∀ z : Nat, wStep (smO X1 Sx) (wRow (smO X1 Sx) (wAll (smO X1 Sx) (namesN (sub' X1 t)) k) n) n = z → ∀ l : List (Nat × Value), lsel l [5, 4, 3, 2, 1, 0] = [(5, vI n), (4, vI k), (3, vI z), (2, vI t), (1, vI x), (0, .ref (P 4))] → WR p la e (rmD 2 0 0) s m args below meth c D cA B0 6 (SQ B Q P F X1 (if (isWi (smO X1 Sx) x (sub' X1 t)) then Sx else upS Sx x t) ps tk (if (isWi (smO X1 Sx) x (sub' X1 t)) then nI 2 else en) h) 89 l [] h 0 0 := by
            intro z hz l hl
            refine WS.sel [5, 4, 3, 2, 1, 0] hl ?_
            refine fst1_ok X (dk rfl) rfl ?_
            refine br_ok X (dk rfl) rfl (show ((92 : Nat) : Int) + (-62) = ((30 : Nat) : Int) from rfl) (fun _ => ?_) (fun q => absurd trivial q)
            refine WS.sel (l' := [(5, vI (n + 1)), (4, vI k), (3, vI (wRow (smO X1 Sx) (wAll (smO X1 Sx) (namesN (sub' X1 t)) k) (n + 1))), (2, vI t), (1, vI x), (0, .ref (P 4))]) [5, 4, 3, 2, 1, 0] (by rw [← fn, show wRow (smO X1 Sx) (wAll (smO X1 Sx) (namesN (sub' X1 t)) k) (n + 1) = z from hz]; rfl) ?_
            exact ihw (n + 1) (by omega) _ rfl
          refine WS.sel [5, 4, 3, 2, 1, 0] hl ?_
          iterate 2 refine fst1_ok X (dk rfl) rfl ?_
          refine br_ok X (dk rfl) rfl (show ((34 : Nat) : Int) + 61 = ((95 : Nat) : Int) from rfl) (fun q => absurd q (by rw [nI_8']; exact nI_ge (by omega) (by omega))) (fun _ => ?_)
          iterate 6 refine fst1_ok X (dk rfl) rfl ?_
          rw [bit8 hsn (by omega)]
          unfold wStep at nxt
          by_cases hb : wRow (smO X1 Sx) (wAll (smO X1 Sx) (namesN (sub' X1 t)) k) n >>> n % 2 = 1
          · rw [hb]
            rw [if_pos hb, smO_get X1 Sx (show n < 8 by omega)] at nxt
            refine br_ok X (dk rfl) rfl (show ((44 : Nat) : Int) + 45 = ((89 : Nat) : Int) from rfl) (fun q => absurd (by decide) q) (fun _ => ?_)
            refine fst1_ok X (dk rfl) rfl ?_
            refine getf_ok X flX4_20 (dk rfl) t3 rfl ?_
            refine fst1_ok X (dk rfl) rfl ?_
            refine ald7v_ok X (dk rfl) r1 (nI_pos (by omega)) (by rw [nI_clamp (by omega)]; exact r3 n (by omega)) ?_
            refine fst1_ok X (dk rfl) rfl ?_
            cases es : Sx n with
            | none =>
              rw [es] at nxt
              rw [pI_none]
              refine br_ok X (dk rfl) rfl (show ((55 : Nat) : Int) + 34 = ((89 : Nat) : Int) from rfl) (fun _ => ?_) (fun q => absurd rfl q)
              exact nxt _ rfl _ rfl
            | some q =>
              rw [es] at nxt
              have hql := (hS n q es).2.1
              obtain ⟨g1, g2, g3⟩ := bx_tl hX hql
              rw [pI_some]
              refine br_ok X (dk rfl) rfl (show ((55 : Nat) : Int) + 34 = ((89 : Nat) : Int) from rfl) (fun q => absurd q (nI_m1 (by omega))) (fun _ => ?_)
              iterate 2 refine fst1_ok X (dk rfl) rfl ?_
              refine getf_ok X flX4_14 (dk rfl) t3 rfl ?_
              refine fst1_ok X (dk rfl) rfl ?_
              refine getf_ok X flX4_20 (dk rfl) t3 rfl ?_
              refine fst1_ok X (dk rfl) rfl ?_
              refine ald7v_ok X (dk rfl) r1 (nI_pos (by omega)) (by rw [nI_clamp (by omega)]; exact r3 n (by omega)) ?_
              rw [es, pI_some]
              refine fst1_ok X (dk rfl) rfl ?_
              refine getf_ok X flX4_14 (dk rfl) t3 rfl ?_
              refine fst1_ok X (dk rfl) rfl ?_
              refine getf_ok X flX4_20 (dk rfl) t3 rfl ?_
              refine fst1_ok X (dk rfl) rfl ?_
              refine ald7v_ok X (dk rfl) r1 (nI_pos (by omega)) (by rw [nI_clamp (by omega)]; exact r3 n (by omega)) ?_
              rw [es, pI_some]
              refine callVR_ok (ci := 7) (T := TX5) (N := 3) (av := [vI q]) (r := [vI q, .ref (B 50), vI (wRow (smO X1 Sx) (wAll (smO X1 Sx) (namesN (sub' X1 t)) k) n)]) X E (s5_endOf h t1 (i := 50) (by omega) t2 g1) lkX5_endOf mlX4_100 lmX5_endOf lpX5_endOf ⟨Nat.le_of_ble_eq_true rfl, Nat.le_of_ble_eq_true rfl⟩ ⟨Nat.le_of_ble_eq_true rfl, Nat.le_of_ble_eq_true rfl⟩ rfl ⟨_, (t1 50 (by omega)).2.1⟩ (Nat.le_of_ble_eq_true rfl) (dk rfl) ?_
              rintro _ rfl
              refine callVR_ok (ci := 7) (T := TX5) (N := 3) (av := [vI q, vI (q + tl X1 q)]) (r := [vI (wRow (smO X1 Sx) (wAll (smO X1 Sx) (namesN (sub' X1 t)) k) n)]) X E (s5_namesIn h t1 (i := 50) (by omega) t2 (a := q) (b := q + tl X1 q) (by omega) g3) lkX5_namesIn mlX4_103 lmX5_namesIn lpX5_namesIn ⟨Nat.le_of_ble_eq_true rfl, Nat.le_of_ble_eq_true rfl⟩ ⟨Nat.le_of_ble_eq_true rfl, Nat.le_of_ble_eq_true rfl⟩ rfl ⟨_, (t1 50 (by omega)).2.1⟩ (Nat.le_of_ble_eq_true rfl) (dk rfl) ?_
              rintro _ rfl
              rw [Nat.add_sub_cancel_left, show (X1.drop q).take (tl X1 q) = sub' X1 q from rfl]
              iterate 2 refine fst1_ok X (dk rfl) rfl ?_
              rw [nI_or]
              exact nxt _ rfl _ rfl
          · have h0 : wRow (smO X1 Sx) (wAll (smO X1 Sx) (namesN (sub' X1 t)) k) n >>> n % 2 = 0 := by
              have := Nat.mod_two_eq_zero_or_one (wRow (smO X1 Sx) (wAll (smO X1 Sx) (namesN (sub' X1 t)) k) n >>> n)
              omega
            rw [h0]
            rw [if_neg hb] at nxt
            refine br_ok X (dk rfl) rfl (show ((44 : Nat) : Int) + 45 = ((89 : Nat) : Int) from rfl) (fun _ => ?_) (fun q => absurd (by decide) q)
            exact nxt _ rfl _ rfl
      iterate 2 refine fst1_ok X (dk rfl) rfl ?_
      exact inner 8 0 rfl _ rfl
  refine fst1_ok X (dk rfl) rfl ?_
  refine getf_ok X flX4_14 (dk rfl) t3 rfl ?_
  iterate 2 refine fst1_ok X (dk rfl) rfl ?_
  refine getf_ok X flX4_14 (dk rfl) t3 rfl ?_
  refine fst1_ok X (dk rfl) rfl ?_
  refine callVR_ok (ci := 7) (T := TX5) (N := 3) (av := [vI t]) (r := [vI t, .ref (B 50)]) X E (s5_endOf h t1 (i := 50) (by omega) t2 e1) lkX5_endOf mlX4_100 lmX5_endOf lpX5_endOf ⟨Nat.le_of_ble_eq_true rfl, Nat.le_of_ble_eq_true rfl⟩ ⟨Nat.le_of_ble_eq_true rfl, Nat.le_of_ble_eq_true rfl⟩ rfl ⟨_, (t1 50 (by omega)).2.1⟩ (Nat.le_of_ble_eq_true rfl) (dk rfl) ?_
  rintro _ rfl
  refine callVR_ok (ci := 7) (T := TX5) (N := 3) (av := [vI t, vI (t + tl X1 t)]) (r := []) X E (s5_namesIn h t1 (i := 50) (by omega) t2 (a := t) (b := t + tl X1 t) (by omega) e3) lkX5_namesIn mlX4_103 lmX5_namesIn lpX5_namesIn ⟨Nat.le_of_ble_eq_true rfl, Nat.le_of_ble_eq_true rfl⟩ ⟨Nat.le_of_ble_eq_true rfl, Nat.le_of_ble_eq_true rfl⟩ rfl ⟨_, (t1 50 (by omega)).2.1⟩ (Nat.le_of_ble_eq_true rfl) (dk rfl) ?_
  rintro _ rfl
  rw [Nat.add_sub_cancel_left, show (X1.drop t).take (tl X1 t) = sub' X1 t from rfl]
  iterate 3 refine fst1_ok X (dk rfl) rfl ?_
  exact outer 8 0 rfl _ rfl
set_option maxHeartbeats 32000000 in
theorem s4_takeStep (h : AH) (Y : LYO B Q) {n1 : Nat} {X1 : List Nat} {Sx : SS} (hY : BY X1 n1) {u1 u2 : Nat} (T : STP B Q P h F X1 Sx (ps ++ [(u1, u2)]) tk 0) (hX : BX X1) (hS : S1 X1 Sx) (hl126 : ps.length < 126) (hu1 : u1 < X1.length) (hu2 : u2 < X1.length) : CT la D cA B0 pa yX4_takeStep cX4_takeStep 6 none (rmD 3 0 0) [.ref (P 4)] h (SQ B Q P F X1 (stepM X1 Sx u1 u2).1 (ps ++ (stepM X1 Sx u1 u2).2.2.reverse) (tk + Int32.ofInt 1) (nI (stepM X1 Sx u1 u2).2.1) h) := by
  refine CT_of (by decide +kernel) (Nat.le_of_ble_eq_true rfl) ?_
  intro p e s m args below meth c X E hr hlk hnm
  have dk : ∀ {pc : Nat} {q : Instr × Nat}, lkd DX4_takeStep pc = some q → decode cX4_takeStep pc = .ok q := lkd_ok DX4_takeStep_ok
  obtain ⟨t1, t2, t3, -, t5⟩ := id T
  have hX32 := hX.2.2
  obtain ⟨d1, d2, d3⟩ := dp_ok hX hS hu1
  obtain ⟨d4, d5, d6⟩ := dp_ok hX hS hu2
  have hg1 := gl_get d3
  have hg2 := gl_get d6
  have hok1 := gl_ok hX d3
  have hok2 := gl_ok hX d6
  have hlt1 := hok1.lt
  have hlt2 := hok2.lt
  have h128 := t5.1
  rw [List.length_append, List.length_singleton] at h128
  have el : (ps ++ [(u1, u2)]).length = ps.length + 1 := by rw [List.length_append, List.length_singleton]
  have egl : (ps ++ [(u1, u2)])[ps.length]? = some (u1, u2) := by rw [List.getElem?_append_right (Nat.le_refl _), Nat.sub_self]; rfl
  have hL4 : P 4 ∈ LSt P Q := List.mem_cons_self
  have hL3 : P 13 ∈ LSt P Q ∧ Q 64 ∈ LSt P Q ∧ Q 65 ∈ LSt P Q := ⟨List.mem_cons_of_mem _ (List.mem_cons_of_mem _ List.mem_cons_self), List.mem_cons_of_mem _ (List.mem_cons_of_mem _ (List.mem_cons_of_mem _ List.mem_cons_self)), List.mem_cons_of_mem _ (List.mem_cons_of_mem _ (List.mem_cons_of_mem _ (List.mem_cons_of_mem _ List.mem_cons_self)))⟩
  iterate 2 refine fst1_ok X (dk rfl) rfl ?_
  refine getf_ok X flX4_52 (dk rfl) t3 rfl ?_
  iterate 2 refine fst1_ok X (dk rfl) rfl ?_
  refine putf_ok X flX4_52 ftX4_3 (Or.inl rfl) rfl rfl (dk rfl) t3 (Nat.le_of_ble_eq_true rfl) ?_
  have Ta := T.fld (tk + Int32.ofInt 1) 0
  have ta3 := Ta.2.2.1
  refine fst1_ok X (dk rfl) rfl ?_
  refine getf_ok X flX4_27 (dk rfl) ta3 rfl ?_
  refine callVR_ok (ci := 4) (T := TX2) (N := 3) (av := []) (r := []) X E (s2_length _ Ta.2.2.2.2) lkX2_length mlX4_60 lmX2_length lpX2_length ⟨Nat.le_of_ble_eq_true rfl, Nat.le_of_ble_eq_true rfl⟩ ⟨Nat.le_of_ble_eq_true rfl, Nat.le_of_ble_eq_true rfl⟩ rfl ⟨_, Ta.2.2.2.2.2.2.1⟩ (Nat.le_of_ble_eq_true rfl) (dk rfl) ?_
  rintro _ rfl
  rw [el]
  iterate 5 refine fst1_ok X (dk rfl) rfl ?_
  rw [nI_1', nI_sub (by omega), Nat.add_sub_cancel]
  refine getf_ok X flX4_27 (dk rfl) ta3 rfl ?_
  refine fst1_ok X (dk rfl) rfl ?_
  refine callVR_ok (ci := 4) (T := TX2) (N := 3) (av := [vI ps.length]) (r := [.ref (P 4)]) X E (s2_oneAt _ Ta.2.2.2.2 egl) lkX2_oneAt mlX4_70 lmX2_oneAt lpX2_oneAt ⟨Nat.le_of_ble_eq_true rfl, Nat.le_of_ble_eq_true rfl⟩ ⟨Nat.le_of_ble_eq_true rfl, Nat.le_of_ble_eq_true rfl⟩ rfl ⟨_, Ta.2.2.2.2.2.2.1⟩ (Nat.le_of_ble_eq_true rfl) (dk rfl) ?_
  rintro _ rfl
  refine callVR_ok (ci := 6) (T := TX4) (N := 5) (av := [vI u1]) (r := []) X E (s4_lookedUp _ Ta hX hS hu1) lkX4_lookedUp mlX4_74 lmX4_lookedUp lpX4_lookedUp ⟨Nat.le_of_ble_eq_true rfl, Nat.le_of_ble_eq_true rfl⟩ ⟨Nat.le_of_ble_eq_true rfl, Nat.le_of_ble_eq_true rfl⟩ rfl ⟨_, ta3⟩ (Nat.le_of_ble_eq_true rfl) (dk rfl) ?_
  rintro _ rfl
  iterate 3 refine fst1_ok X (dk rfl) rfl ?_
  refine getf_ok X flX4_27 (dk rfl) ta3 rfl ?_
  refine fst1_ok X (dk rfl) rfl ?_
  refine callVR_ok (ci := 4) (T := TX2) (N := 3) (av := [vI ps.length]) (r := [.ref (P 4)]) X E (s2_otherAt _ Ta.2.2.2.2 egl) lkX2_otherAt mlX4_77 lmX2_otherAt lpX2_otherAt ⟨Nat.le_of_ble_eq_true rfl, Nat.le_of_ble_eq_true rfl⟩ ⟨Nat.le_of_ble_eq_true rfl, Nat.le_of_ble_eq_true rfl⟩ rfl ⟨_, Ta.2.2.2.2.2.2.1⟩ (Nat.le_of_ble_eq_true rfl) (dk rfl) ?_
  rintro _ rfl
  refine callVR_ok (ci := 6) (T := TX4) (N := 5) (av := [vI u2]) (r := []) X E (s4_lookedUp _ Ta hX hS hu2) lkX4_lookedUp mlX4_74 lmX4_lookedUp lpX4_lookedUp ⟨Nat.le_of_ble_eq_true rfl, Nat.le_of_ble_eq_true rfl⟩ ⟨Nat.le_of_ble_eq_true rfl, Nat.le_of_ble_eq_true rfl⟩ rfl ⟨_, ta3⟩ (Nat.le_of_ble_eq_true rfl) (dk rfl) ?_
  rintro _ rfl
  iterate 2 refine fst1_ok X (dk rfl) rfl ?_
  refine getf_ok X flX4_27 (dk rfl) ta3 rfl ?_
  refine callV_ok (ci := 4) (T := TX2) (N := 3) (av := []) (r := []) X E (s2_dropNext _ Ta.2.2.2.2) lkX2_dropNext mlX4_80 lmX2_dropNext lpX2_dropNext ⟨Nat.le_of_ble_eq_true rfl, Nat.le_of_ble_eq_true rfl⟩ ⟨Nat.le_of_ble_eq_true rfl, Nat.le_of_ble_eq_true rfl⟩ rfl Ta.2.2.2.2.2.2.1 (Nat.le_of_ble_eq_true rfl) (dk rfl) ?_
  rintro _ h2 ⟨rfl, H2, f2⟩
  have Tb := Ta.pr Y H2 f2
  have tb3 := Tb.2.2.1
  have fb : FrU B Q (LSt P Q) h h2 := ((FrU.rf h).set hL4 _).trans (f2.u hL3)
  refine fst1_ok X (dk rfl) rfl ?_
  refine getf_ok X flX4_14 (dk rfl) tb3 rfl ?_
  refine fst1_ok X (dk rfl) rfl ?_
  refine callVR_ok (ci := 7) (T := TX5) (N := 3) (av := [vI (dp X1 Sx u1)]) (r := []) X E (s5_letterAt h2 Tb.1 (i := 50) (by omega) (nI (dp X1 Sx u1))) lkX5_letterAt mlX4_83 lmX5_letterAt lpX5_letterAt ⟨Nat.le_of_ble_eq_true rfl, Nat.le_of_ble_eq_true rfl⟩ ⟨Nat.le_of_ble_eq_true rfl, Nat.le_of_ble_eq_true rfl⟩ rfl ⟨_, (Tb.1 50 (by omega)).2.1⟩ (Nat.le_of_ble_eq_true rfl) (dk rfl) ?_
  rintro _ rfl
  rw [Tb.2.1.lt hg1 (by omega)]
  iterate 2 refine fst1_ok X (dk rfl) rfl ?_
  refine getf_ok X flX4_14 (dk rfl) tb3 rfl ?_
  refine fst1_ok X (dk rfl) rfl ?_
  refine callVR_ok (ci := 7) (T := TX5) (N := 3) (av := [vI (dp X1 Sx u2)]) (r := []) X E (s5_letterAt h2 Tb.1 (i := 50) (by omega) (nI (dp X1 Sx u2))) lkX5_letterAt mlX4_83 lmX5_letterAt lpX5_letterAt ⟨Nat.le_of_ble_eq_true rfl, Nat.le_of_ble_eq_true rfl⟩ ⟨Nat.le_of_ble_eq_true rfl, Nat.le_of_ble_eq_true rfl⟩ rfl ⟨_, (Tb.1 50 (by omega)).2.1⟩ (Nat.le_of_ble_eq_true rfl) (dk rfl) ?_
  rintro _ rfl
  rw [Tb.2.1.lt hg2 (by omega)]
  iterate 2 refine fst1_ok X (dk rfl) rfl ?_
  refine callNR_ok (av := [vI (gl X1 (dp X1 Sx u1))]) (r := []) X E (s6_isName h2 (x := gl X1 (dp X1 Sx u1)) (by omega)) lkX6_isName mnX4_86 lsX6_isName ⟨Nat.le_of_ble_eq_true rfl, Nat.le_of_ble_eq_true rfl⟩ ⟨Nat.le_of_ble_eq_true rfl, Nat.le_of_ble_eq_true rfl⟩ (Nat.le_of_ble_eq_true rfl) (dk rfl) ?_
  rintro _ rfl
  obtain ⟨z0, hz⟩ : ∃ z0, z0 = stepM X1 Sx u1 u2 := ⟨_, rfl⟩
  have st := hz
  unfold stepM at st
  rw [← hz]
  by_cases c1 : gl X1 (dp X1 Sx u1) < 8
  · rw [decide_eq_true c1]
    rw [if_pos (by omega)] at st
    refine br_ok X (dk rfl) rfl (show ((78 : Nat) : Int) + 20 = ((98 : Nat) : Int) from rfl) (fun q => absurd q bI_t) (fun _ => ?_)
    refine fst1_ok X (dk rfl) rfl ?_
    refine callNR_ok (av := [vI (gl X1 (dp X1 Sx u2))]) (r := []) X E (s6_isName h2 (x := gl X1 (dp X1 Sx u2)) (by omega)) lkX6_isName mnX4_86 lsX6_isName ⟨Nat.le_of_ble_eq_true rfl, Nat.le_of_ble_eq_true rfl⟩ ⟨Nat.le_of_ble_eq_true rfl, Nat.le_of_ble_eq_true rfl⟩ (Nat.le_of_ble_eq_true rfl) (dk rfl) ?_
    rintro _ rfl
    by_cases c2 : gl X1 (dp X1 Sx u2) < 8
    · rw [decide_eq_true c2]
      rw [if_pos (by omega)] at st
      refine br_ok X (dk rfl) rfl (show ((86 : Nat) : Int) + 12 = ((98 : Nat) : Int) from rfl) (fun q => absurd q bI_t) (fun _ => ?_)
      iterate 3 refine fst1_ok X (dk rfl) rfl ?_
      refine callV_ok (ci := 6) (T := TX4) (N := 5) (av := [vI (dp X1 Sx u1), vI (dp X1 Sx u2)]) (r := []) X E (s4_joinNames h2 Y Tb hX hS d3 d6 c1 c2) lkX4_joinNames mlX4_90 lmX4_joinNames lpX4_joinNames ⟨Nat.le_of_ble_eq_true rfl, Nat.le_of_ble_eq_true rfl⟩ ⟨Nat.le_of_ble_eq_true rfl, Nat.le_of_ble_eq_true rfl⟩ rfl tb3 (Nat.le_of_ble_eq_true rfl) (dk rfl) ?_
      rintro _ h3 ⟨rfl, T3, f3⟩
      refine br_ok X (dk rfl) rfl (show ((95 : Nat) : Int) + 67 = ((162 : Nat) : Int) from rfl) (fun _ => ?_) (fun q => absurd trivial q)
      have ez : z0 = ((if gl X1 (dp X1 Sx u2) < gl X1 (dp X1 Sx u1) then upS Sx (gl X1 (dp X1 Sx u1)) (dp X1 Sx u2) else if gl X1 (dp X1 Sx u1) < gl X1 (dp X1 Sx u2) then upS Sx (gl X1 (dp X1 Sx u2)) (dp X1 Sx u1) else Sx), 0, []) := by
        rw [st]
        split
        · rfl
        · split <;> rfl
      rw [ez]
      exact retv_ok X hr hlk (dk rfl) (⟨rfl, by rw [List.reverse_nil, List.append_nil]; exact T3, fb.trans f3⟩) (Nat.le_of_ble_eq_true rfl) (Nat.le_of_ble_eq_true rfl)
    · rw [decide_eq_false c2]
      rw [if_neg (by rcases hok2 with z | z <;> omega)] at st
      refine br_ok X (dk rfl) rfl (show ((86 : Nat) : Int) + 12 = ((98 : Nat) : Int) from rfl) (fun _ => ?_) (fun q => absurd bI_f' q)
      refine fst1_ok X (dk rfl) rfl ?_
      refine callNR_ok (av := [vI (gl X1 (dp X1 Sx u1))]) (r := []) X E (s6_isName h2 (x := gl X1 (dp X1 Sx u1)) (by omega)) lkX6_isName mnX4_86 lsX6_isName ⟨Nat.le_of_ble_eq_true rfl, Nat.le_of_ble_eq_true rfl⟩ ⟨Nat.le_of_ble_eq_true rfl, Nat.le_of_ble_eq_true rfl⟩ (Nat.le_of_ble_eq_true rfl) (dk rfl) ?_
      rintro _ rfl
      rw [decide_eq_true c1]
      refine br_ok X (dk rfl) rfl (show ((103 : Nat) : Int) + 13 = ((116 : Nat) : Int) from rfl) (fun q => absurd q bI_t) (fun _ => ?_)
      iterate 3 refine fst1_ok X (dk rfl) rfl ?_
      refine callV_ok (ci := 6) (T := TX4) (N := 5) (av := [vI (gl X1 (dp X1 Sx u1)), vI (dp X1 Sx u2)]) (r := []) X E (s4_standFor h2 Y hY Tb hX hS c1 d6) lkX4_standFor mlX4_93 lmX4_standFor lpX4_standFor ⟨Nat.le_of_ble_eq_true rfl, Nat.le_of_ble_eq_true rfl⟩ ⟨Nat.le_of_ble_eq_true rfl, Nat.le_of_ble_eq_true rfl⟩ rfl tb3 (Nat.le_of_ble_eq_true rfl) (dk rfl) ?_
      rintro _ h3 ⟨rfl, T3, f3⟩
      refine br_ok X (dk rfl) rfl (show ((113 : Nat) : Int) + 49 = ((162 : Nat) : Int) from rfl) (fun _ => ?_) (fun q => absurd trivial q)
      cases hw : isWi (smO X1 Sx) (gl X1 (dp X1 Sx u1)) (sub' X1 (dp X1 Sx u2)) with
      | true =>
        rw [hw] at st T3
        rw [if_pos rfl] at st
        rw [if_pos rfl, if_pos rfl] at T3
        rw [st]
        exact retv_ok X hr hlk (dk rfl) ⟨rfl, by rw [List.reverse_nil, List.append_nil]; exact T3, fb.trans f3⟩ (Nat.le_of_ble_eq_true rfl) (Nat.le_of_ble_eq_true rfl)
      | false =>
        rw [hw] at st T3
        rw [if_neg (by decide)] at st
        rw [if_neg (by decide), if_neg (by decide)] at T3
        rw [st]
        exact retv_ok X hr hlk (dk rfl) ⟨rfl, by rw [List.reverse_nil, List.append_nil]; exact T3, fb.trans f3⟩ (Nat.le_of_ble_eq_true rfl) (Nat.le_of_ble_eq_true rfl)
  · rw [decide_eq_false c1]
    rw [if_neg (by rcases hok1 with z | z <;> omega)] at st
    refine br_ok X (dk rfl) rfl (show ((78 : Nat) : Int) + 20 = ((98 : Nat) : Int) from rfl) (fun _ => ?_) (fun q => absurd bI_f' q)
    refine fst1_ok X (dk rfl) rfl ?_
    refine callNR_ok (av := [vI (gl X1 (dp X1 Sx u1))]) (r := []) X E (s6_isName h2 (x := gl X1 (dp X1 Sx u1)) (by omega)) lkX6_isName mnX4_86 lsX6_isName ⟨Nat.le_of_ble_eq_true rfl, Nat.le_of_ble_eq_true rfl⟩ ⟨Nat.le_of_ble_eq_true rfl, Nat.le_of_ble_eq_true rfl⟩ (Nat.le_of_ble_eq_true rfl) (dk rfl) ?_
    rintro _ rfl
    rw [decide_eq_false c1]
    refine br_ok X (dk rfl) rfl (show ((103 : Nat) : Int) + 13 = ((116 : Nat) : Int) from rfl) (fun _ => ?_) (fun q => absurd bI_f' q)
    refine fst1_ok X (dk rfl) rfl ?_
    refine callNR_ok (av := [vI (gl X1 (dp X1 Sx u2))]) (r := []) X E (s6_isName h2 (x := gl X1 (dp X1 Sx u2)) (by omega)) lkX6_isName mnX4_86 lsX6_isName ⟨Nat.le_of_ble_eq_true rfl, Nat.le_of_ble_eq_true rfl⟩ ⟨Nat.le_of_ble_eq_true rfl, Nat.le_of_ble_eq_true rfl⟩ (Nat.le_of_ble_eq_true rfl) (dk rfl) ?_
    rintro _ rfl
    by_cases c2 : gl X1 (dp X1 Sx u2) < 8
    · rw [decide_eq_true c2]
      rw [if_pos (by omega)] at st
      refine br_ok X (dk rfl) rfl (show ((121 : Nat) : Int) + 13 = ((134 : Nat) : Int) from rfl) (fun q => absurd q bI_t) (fun _ => ?_)
      iterate 3 refine fst1_ok X (dk rfl) rfl ?_
      refine callV_ok (ci := 6) (T := TX4) (N := 5) (av := [vI (gl X1 (dp X1 Sx u2)), vI (dp X1 Sx u1)]) (r := []) X E (s4_standFor h2 Y hY Tb hX hS c2 d3) lkX4_standFor mlX4_93 lmX4_standFor lpX4_standFor ⟨Nat.le_of_ble_eq_true rfl, Nat.le_of_ble_eq_true rfl⟩ ⟨Nat.le_of_ble_eq_true rfl, Nat.le_of_ble_eq_true rfl⟩ rfl tb3 (Nat.le_of_ble_eq_true rfl) (dk rfl) ?_
      rintro _ h3 ⟨rfl, T3, f3⟩
      refine br_ok X (dk rfl) rfl (show ((131 : Nat) : Int) + 31 = ((162 : Nat) : Int) from rfl) (fun _ => ?_) (fun q => absurd trivial q)
      cases hw : isWi (smO X1 Sx) (gl X1 (dp X1 Sx u2)) (sub' X1 (dp X1 Sx u1)) with
      | true =>
        rw [hw] at st T3
        rw [if_pos rfl] at st
        rw [if_pos rfl, if_pos rfl] at T3
        rw [st]
        exact retv_ok X hr hlk (dk rfl) ⟨rfl, by rw [List.reverse_nil, List.append_nil]; exact T3, fb.trans f3⟩ (Nat.le_of_ble_eq_true rfl) (Nat.le_of_ble_eq_true rfl)
      | false =>
        rw [hw] at st T3
        rw [if_neg (by decide)] at st
        rw [if_neg (by decide), if_neg (by decide)] at T3
        rw [st]
        exact retv_ok X hr hlk (dk rfl) ⟨rfl, by rw [List.reverse_nil, List.append_nil]; exact T3, fb.trans f3⟩ (Nat.le_of_ble_eq_true rfl) (Nat.le_of_ble_eq_true rfl)
    · rw [decide_eq_false c2]
      rw [if_neg (by rcases hok2 with z | z <;> omega)] at st
      refine br_ok X (dk rfl) rfl (show ((121 : Nat) : Int) + 13 = ((134 : Nat) : Int) from rfl) (fun _ => ?_) (fun q => absurd bI_f' q)
      iterate 2 refine fst1_ok X (dk rfl) rfl ?_
      by_cases c3 : gl X1 (dp X1 Sx u1) = gl X1 (dp X1 Sx u2)
      · rw [if_pos c3] at st
        refine br_ok X (dk rfl) rfl (show ((138 : Nat) : Int) + 11 = ((149 : Nat) : Int) from rfl) (fun _ => ?_) (fun q => absurd (by rw [c3]) q)
        refine fst1_ok X (dk rfl) rfl ?_
        refine getf_ok X flX4_27 (dk rfl) tb3 rfl ?_
        refine fst1_ok X (dk rfl) rfl ?_
        refine getf_ok X flX4_14 (dk rfl) tb3 rfl ?_
        iterate 2 refine fst1_ok X (dk rfl) rfl ?_
        have hga := ga_le hX d3
        refine callV_ok (ci := 4) (T := TX2) (N := 3) (av := [.ref (B 50), vI (dp X1 Sx u1), vI (dp X1 Sx u2)]) (r := []) X E (s2_addParts h2 Tb.2.2.2.2 (fun z => by have := Y.2 64 65 (by decide) (by decide) z; omega) (hAq Y (by decide) (by decide) (by decide) (by decide)) Tb.1 (i := 50) (by omega) hX Tb.2.1 d3 d6 c3 (by omega)) lkX2_addParts mlX4_96 lmX2_addParts lpX2_addParts ⟨Nat.le_of_ble_eq_true rfl, Nat.le_of_ble_eq_true rfl⟩ ⟨Nat.le_of_ble_eq_true rfl, Nat.le_of_ble_eq_true rfl⟩ rfl Tb.2.2.2.2.2.2.1 (Nat.le_of_ble_eq_true rfl) (dk rfl) ?_
        rintro _ h3 ⟨rfl, H3, f3⟩
        rw [st]
        exact retv_ok X hr hlk (dk rfl) (⟨rfl, Tb.pr Y H3 f3, fb.trans (f3.u hL3)⟩) (Nat.le_of_ble_eq_true rfl) (Nat.le_of_ble_eq_true rfl)
      · rw [if_neg c3] at st
        refine br_ok X (dk rfl) rfl (show ((138 : Nat) : Int) + 11 = ((149 : Nat) : Int) from rfl) (fun q => absurd (nI_inj (by omega) (by omega) q) c3) (fun _ => ?_)
        iterate 2 refine fst1_ok X (dk rfl) rfl ?_
        refine putf_ok X flX4_56 ftX4_4 (Or.inl rfl) rfl rfl (dk rfl) tb3 (Nat.le_of_ble_eq_true rfl) ?_
        rw [st]
        refine br_ok X (dk rfl) rfl (show ((146 : Nat) : Int) + 16 = ((162 : Nat) : Int) from rfl) (fun _ => ?_) (fun q => absurd trivial q)
        exact retv_ok X hr hlk (dk rfl) (⟨rfl, by rw [List.reverse_nil, List.append_nil]; exact Tb.fld _ _, fb.trans ((FrU.rf h2).set hL4 _)⟩) (Nat.le_of_ble_eq_true rfl) (Nat.le_of_ble_eq_true rfl)
end S17
end Uc17steps
section Uc18alike1
/-! the class, strongly: makeAlike of the steps (printed by wip/p20/genT6.py) -/
def okK (k : Nat) : Prop := k = 4 ∨ k = 6 ∨ k = 107
theorem FrU.keep {B Q : Nat → Nat} {L : List Nat} {h h' : AH} {F : Nat → TC} (f : FrU B Q L h h') (S : TS B Q h F) (hL : ∀ a ∈ L, ∃ k vs, h a = some (k, vs) ∧ okK k) {a k : Nat} {vs : List Value} (e : h a = some (k, vs)) (h7 : k ≠ 7) (hk : ¬ okK k) : h' a = some (k, vs) := by
  rw [f a (fun i hi => ?_) (fun z => ?_)]
  · exact e
  · obtain ⟨-, b1, xs, b2, -⟩ := S i hi
    exact ⟨k_ne e b1 h7, k_ne e b2 (fun z => hk (Or.inr (Or.inr z)))⟩
  · obtain ⟨k2, vs2, e2, ok⟩ := hL a z
    rw [e] at e2
    cases e2
    exact hk ok
theorem FrU.frC {B Q : Nat → Nat} {L : List Nat} {h h' : AH} {F : Nat → TC} (f : FrU B Q L h h') (S : TS B Q h F) (hL : ∀ a ∈ L, ∃ k vs, h a = some (k, vs) ∧ okK k) : FrC h h' := fun a c e k => by
  obtain ⟨k1, vs⟩ := c
  refine f.keep S hL e (fun z => ?_) (fun z => ?_)
  · rw [z] at k
    cases k
  · rcases z with z | z | z <;> rw [z] at k <;> cases k
theorem AnO.keepU {B Q : Nat → Nat} {L : List Nat} {h h' : AH} {F : Nat → TC} {oo f : Nat} (H : AnO B h oo f) (g : FrU B Q L h h') (S : TS B Q h F) (hL : ∀ a ∈ L, ∃ k vs, h a = some (k, vs) ∧ okK k) : AnO B h' oo f := by
  obtain ⟨h1, arr, h2, h3⟩ := H
  exact ⟨h1, arr, g.keep S hL h2 (by decide) (by unfold okK; decide), g.keep S hL h3 (by decide) (by unfold okK; decide)⟩
theorem CON.keepU {B Q P : Nat → Nat} {L : List Nat} {h h' : AH} {F : Nat → TC} (H : CON B P h) (g : FrU B Q L h h') (S : TS B Q h F) (hL : ∀ a ∈ L, ∃ k vs, h a = some (k, vs) ∧ okK k) : CON B P h' := by
  obtain ⟨c1, c2, c3, c4, c5⟩ := H
  exact ⟨g.keep S hL c1 (by decide) (by unfold okK; decide), g.keep S hL c2 (by decide) (by unfold okK; decide), fun k hk => (c3 k hk).keepU g S hL, c4.keepU g S hL, c5.keepU g S hL⟩
section SCs
variable {B Q P : Nat → Nat} {ox : Nat} {kn : Int32} {h h' : AH} {F F' : Nat → TC} {d r : Int32}
theorem SCR.pne (Y : LYO B Q) (R : SCR B Q P h) {i j : Nat} (hi : i < 3) (hj : j < 3) (hne : i ≠ j) : P (13 + i) ≠ P (13 + j) := fun z => by
  obtain ⟨w1, -, e1⟩ := R.2.2.2.1 i hi
  obtain ⟨w2, -, e2⟩ := R.2.2.2.1 j hj
  rw [z, e2] at e1
  have e3 : Q (64 + 2 * j) = Q (64 + 2 * i) := by injection e1 with e1; injection e1 with _ e1; injection e1 with e1; injection e1
  have := Y.2 _ _ (by omega) (by omega) e3
  omega
theorem SCR.prw (R : SCR B Q P h) {k : Nat} (hk : k < 3) : PRW h (P (13 + k)) (Q (64 + 2 * k)) (Q (65 + 2 * k)) := by
  obtain ⟨w, w1, w2⟩ := R.2.2.2.1 k hk
  obtain ⟨xs, x1, x2⟩ := R.2.2.2.2 (64 + 2 * k) (by omega) (by omega)
  obtain ⟨ys, y1, y2⟩ := R.2.2.2.2 (65 + 2 * k) (by omega) (by omega)
  refine ⟨⟨w, w1, w2⟩, ⟨xs, x1, ?_⟩, ys, y1, ?_⟩
  · rw [x2]
    unfold rlI
    rw [if_neg (by omega), if_neg (by omega)]
  · rw [y2]
    unfold rlI
    rw [if_neg (by omega), if_neg (by omega)]
theorem SCR.lst (R : SCR B Q P h) : ∀ a ∈ LSt P Q, ∃ k vs, h a = some (k, vs) ∧ okK k := fun a ha => by
  obtain ⟨⟨t, e, r1⟩, r2, r3, r4, r5⟩ := R
  unfold LSt at ha
  simp only [List.mem_cons, List.not_mem_nil, or_false] at ha
  rcases ha with rfl | rfl | rfl | rfl | rfl
  · exact ⟨_, _, r1, Or.inr (Or.inl rfl)⟩
  · obtain ⟨xs, x1, -⟩ := r5 60 (by decide) (by decide)
    exact ⟨_, _, x1, Or.inr (Or.inr rfl)⟩
  · obtain ⟨w, w1, w2⟩ := r4 0 (by decide)
    exact ⟨_, _, w2, Or.inl rfl⟩
  · obtain ⟨xs, x1, -⟩ := r5 64 (by decide) (by decide)
    exact ⟨_, _, x1, Or.inr (Or.inr rfl)⟩
  · obtain ⟨xs, x1, -⟩ := r5 65 (by decide) (by decide)
    exact ⟨_, _, x1, Or.inr (Or.inr rfl)⟩
/-- a row that isn't written to -/
theorem SCR.rowU {L : List Nat} (Y : LYO B Q) (R : SCR B Q P h) (S : TS B Q h F) (g : FrU B Q L h h') {j : Nat} (h1 : 60 ≤ j) (h2 : j < 70) (hn : Q j ∉ L) : ∃ xs : List Int32, h' (Q j) = some (107, xs.map Value.int) ∧ xs.length = rlI j := by
  obtain ⟨xs, x1, x2⟩ := R.2.2.2.2 j h1 h2
  refine ⟨xs, ?_, x2⟩
  rw [g (Q j) (fun i hi => ⟨?_, fun z => by have := Y.2 _ _ h2 (by omega) z; omega⟩) hn]
  · exact x1
  · obtain ⟨-, b1, -⟩ := S i hi
    exact k_ne x1 b1 (by decide)
/-- pairs that aren't written to -/
theorem SCR.prU {L : List Nat} (R : SCR B Q P h) (S : TS B Q h F) (g : FrU B Q L h h') {k : Nat} (hk : k < 3) (hn : P (13 + k) ∉ L) : ∃ w : Nat, w ≤ 128 ∧ h' (P (13 + k)) = some (4, [.ref (Q (64 + 2 * k)), .ref (Q (65 + 2 * k)), vI w]) := by
  obtain ⟨w, w1, w2⟩ := R.2.2.2.1 k hk
  refine ⟨w, w1, ?_⟩
  rw [g _ (fun i hi => ?_) hn]
  · exact w2
  · obtain ⟨-, b1, xs, b2, -⟩ := S i hi
    exact ⟨k_ne w2 b1 (by decide), k_ne w2 b2 (by decide)⟩
/-- the class's cells after steps -/
theorem CLS.st {X : List Nat} {S : SS} {ps : PL2} {tk en : Int32} (Y : LYO B Q) (C : CLS B Q P ox kn h F d r) (T : STP B Q P h' F' X S ps tk en) (f : FrU B Q (LSt P Q) h h') : CLS B Q P ox kn h' F' d r := by
  obtain ⟨c1, c2, c3, c4⟩ := id C
  have hL := c4.lst
  have hq : ∀ j, 60 ≤ j → j < 70 → j ≠ 60 → j ≠ 64 → j ≠ 65 → Q j ∉ LSt P Q := fun j h1 h2 n0 n4 n5 z => by
    obtain ⟨⟨t, e, r1⟩, -, -, r4, r5⟩ := c4
    obtain ⟨xs, x1, -⟩ := r5 j h1 h2
    obtain ⟨w, -, w2⟩ := r4 0 (by decide)
    unfold LSt at z
    simp only [List.mem_cons, List.not_mem_nil, or_false] at z
    rcases z with z | z | z | z | z
    · exact k_ne x1 r1 (by decide) z
    · exact n0 (Y.2 _ _ h2 (by decide) z)
    · exact k_ne x1 w2 (by decide) z
    · exact n4 (Y.2 _ _ h2 (by decide) z)
    · exact n5 (Y.2 _ _ h2 (by decide) z)
  have hp : ∀ k, k < 3 → k ≠ 0 → P (13 + k) ∉ LSt P Q := fun k hk n0 z => by
    have hne := c4.pne Y hk (j := 0) (by decide) n0
    obtain ⟨⟨t, e, r1⟩, -, -, r4, r5⟩ := c4
    obtain ⟨w, -, w2⟩ := r4 k hk
    unfold LSt at z
    simp only [List.mem_cons, List.not_mem_nil, or_false] at z
    rcases z with z | z | z | z | z
    · exact k_ne w2 r1 (by decide) z
    · obtain ⟨xs, x1, -⟩ := r5 60 (by decide) (by decide)
      exact k_ne w2 x1 (by decide) z
    · exact hne z
    · obtain ⟨xs, x1, -⟩ := r5 64 (by decide) (by decide)
      exact k_ne w2 x1 (by decide) z
    · obtain ⟨xs, x1, -⟩ := r5 65 (by decide) (by decide)
      exact k_ne w2 x1 (by decide) z
  obtain ⟨t1, t2, t3, ⟨row, q1, q2, q3⟩, t5⟩ := T
  refine ⟨t1, f.keep c1 hL c2 (by decide) (by unfold okK; decide), c3.keepU f c1 hL, ⟨tk, en, t3⟩, f.keep c1 hL c4.2.1 (by decide) (by unfold okK; decide), f.keep c1 hL c4.2.2.1 (by decide) (by unfold okK; decide), fun k hk => ?_, fun j h1 h2 => ?_⟩
  · by_cases e : k = 0
    · subst e
      exact ⟨_, t5.1, t5.2.2.1⟩
    · exact c4.prU c1 f hk (hp k hk e)
  · by_cases e0 : j = 60
    · subst e0
      exact ⟨row, q1, q2⟩
    · by_cases e4 : j = 64
      · subst e4
        obtain ⟨-, -, -, ⟨xs, x1, x2, -⟩, -⟩ := t5
        exact ⟨xs, x1, x2⟩
      · by_cases e5 : j = 65
        · subst e5
          obtain ⟨-, -, -, -, ys, y1, y2, -⟩ := t5
          exact ⟨ys, y1, y2⟩
        · exact c4.rowU Y c1 f h1 h2 (hq j h1 h2 e0 e4 e5)
end SCs
section S18
variable {la : Launch} {D : va_G} {cA : Nat → ClassId} {B0 pa : Nat} {B Q P : Nat → Nat} {ox : Nat} {kn : Int32} {F : Nat → TC} {d r : Int32} {ps : PL2} {tk en : Int32}
set_option maxHeartbeats 4000000 in
theorem s4_tellInto (h : AH) (Y : LYO B Q) {X1 : List Nat} {Sx : SS} (T : STP B Q P h F X1 Sx ps tk en) {oo f : Nat} (O : AnO B h oo f) (hrm : ∀ n, n < 8 → rmI (f + n) = 16) (hX : BX X1) (hS : S1 X1 Sx) (hA : Ac X1 Sx) {Ex : Nat → List Nat} (hE : ExP X1 Sx Ex) : CT la D cA B0 pa yX4_tellInto cX4_tellInto 2 none (rmD 4 0 0) [.ref (P 4), .ref oo] h (whC B Q F f Ex h) := by
  refine CT_of (by decide +kernel) (Nat.le_of_ble_eq_true rfl) ?_
  intro p e s m args below meth c X E hr hlk hnm
  have dk : ∀ {pc : Nat} {q : Instr × Nat}, lkd DX4_tellInto pc = some q → decode cX4_tellInto pc = .ok q := lkd_ok DX4_tellInto_ok
  obtain ⟨t1, t2, t3, ⟨row, q1, q2, q3⟩, t5⟩ := id T
  iterate 2 refine fst1_ok X (dk rfl) rfl ?_
  refine getf_ok X flX4_14 (dk rfl) t3 rfl ?_
  refine fst1_ok X (dk rfl) rfl ?_
  refine getf_ok X flX4_20 (dk rfl) t3 rfl ?_
  refine callV_ok (ci := 2) (T := TX0) (N := 1) (av := [.ref (B 50), .ref (Q 60)]) (r := []) X E (s0_becomeWholeOf h Y t1 O hrm (ib := 50) (by omega) (by have := O.1; omega) hX t2 (R := Q 60) q1 q2 q3 (fun i hi z => by have := Y.2 _ _ (by decide) (by omega) z; omega) hS hA hE) lkX0_becomeWholeOf mlX4_64 lmX0_becomeWholeOf lpX0_becomeWholeOf ⟨Nat.le_of_ble_eq_true rfl, Nat.le_of_ble_eq_true rfl⟩ ⟨Nat.le_of_ble_eq_true rfl, Nat.le_of_ble_eq_true rfl⟩ rfl O.2.choose_spec.1 (Nat.le_of_ble_eq_true rfl) (dk rfl) ?_
  rintro _ h1 ⟨rfl, f1, G, S1, g1⟩
  exact retv_ok X hr hlk (dk rfl) (⟨rfl, f1, G, S1, g1⟩) (Nat.le_of_ble_eq_true rfl) (Nat.le_of_ble_eq_true rfl)
/-- two terms were made alike by steps -/
def maP (B Q P : Nat → Nat) (ox : Nat) (kn : Int32) (F : Nat → TC) (d r : Int32) (X : List Nat) (S : SS) (w m : Nat) (h : AH) (v : Option Value) (h' : AH) : Prop :=
  v = some (.int (bI (decide (w = 0)))) ∧ FrC h h' ∧ ∃ (F' : Nat → TC) (ps : PL2), CLS B Q P ox kn h' F' d r ∧ (∀ i, i ≠ 50 → F' i = F i) ∧ STP B Q P h' F' X S ps (nI m) (nI w)
set_option maxHeartbeats 32000000 in
theorem s4_makeAlike (h : AH) (Y : LYO B Q) (C : CLS B Q P ox kn h F d r) {i1 i2 : Nat} (h1i : i1 < 52) (h1n : i1 ≠ 50) (h2i : i2 < 52) (h2n : i2 ≠ 50) {one other : List Nat} (N1 : TN (F i1) one) (N2 : TN (F i2) other) (t1 : TW one ∧ one.length ≤ 16) (t2 : TW other ∧ other.length ≤ 16) {Sx : SS} {wy mm : Nat} (hrun : runM (one ++ other) mm sN 0 [(0, one.length)] = some (Sx, wy, mm)) (hmm : mm ≤ 4211) (hwy : wy ≤ 2) : CT la D cA B0 pa yX4_makeAlike cX4_makeAlike 4 (some .boolean) (rmD 4 0 0) [.ref (P 4), .ref (B i1), .ref (B i2)] h (maP B Q P ox kn F d r (one ++ other) Sx wy mm h) := by
  refine CT_of (by decide +kernel) (Nat.le_of_ble_eq_true rfl) ?_
  intro p e s m args below meth c X E hr hlk hnm
  have dk : ∀ {pc : Nat} {q : Instr × Nat}, lkd DX4_makeAlike pc = some q → decode cX4_makeAlike pc = .ok q := lkd_ok DX4_makeAlike_ok
  obtain ⟨bY, ey1, ey2⟩ := BY_of t1 t2
  have hX := bY.1
  have hX32 := hX.2.2
  have hrm : rmI 50 = 32 := rfl
  have hl1 := N1.len
  have hl2 := N2.len
  have NX : TN ((upF F 50 ((F i1).1 ++ (F i2).1, (F i1).2 || (F i2).2)) 50) (one ++ other) := by
    rw [upF_self]
    refine ⟨?_, fun x hx => (List.mem_append.mp hx).elim (N1.2 x) (N2.2 x)⟩
    show (F i1).1 ++ (F i2).1 = (one ++ other).map nI
    rw [N1.1, N2.1, List.map_append]
  have hL := C.2.2.2.lst
  have out : ∀ (h1 : AH) (ps : PL2), STP B Q P h1 (upF F 50 ((F i1).1 ++ (F i2).1, (F i1).2 || (F i2).2)) (one ++ other) Sx ps (nI mm) (nI wy) → FrU B Q (LSt P Q) h h1 → ∀ l : List (Nat × Value), lsel l [0] = [(0, .ref (P 4))] → WR p la e (rmD 4 0 0) s m args below meth c D cA B0 4 (maP B Q P ox kn F d r (one ++ other) Sx wy mm h) 81 l [] h1 0 0 := by
    intro h1 ps T1 f1 l hl
    have fin : maP B Q P ox kn F d r (one ++ other) Sx wy mm h (some (.int (bI (decide (wy = 0))))) h1 := ⟨rfl, f1.frC C.1 hL, _, ps, C.st Y T1 f1, fun i hi => upF_ne _ _ hi, T1⟩
    refine WS.sel [0] hl ?_
    refine fst1_ok X (dk rfl) rfl ?_
    refine getf_ok X flX4_56 (dk rfl) T1.2.2.1 rfl ?_
    by_cases hz : wy = 0
    · rw [decide_eq_true hz] at fin
      rw [show nI wy = 0 by rw [hz]; rfl]
      refine br_ok X (dk rfl) rfl (show ((85 : Nat) : Int) + 7 = ((92 : Nat) : Int) from rfl) (fun q => absurd rfl q) (fun _ => ?_)
      refine fst1_ok X (dk rfl) rfl ?_
      refine br_ok X (dk rfl) rfl (show ((89 : Nat) : Int) + 4 = ((93 : Nat) : Int) from rfl) (fun _ => ?_) (fun q => absurd trivial q)
      exact reti_ok X hr hlk (bI_n true) (dk rfl) (fin) (Nat.le_of_ble_eq_true rfl) (Nat.le_of_ble_eq_true rfl)
    · rw [decide_eq_false hz] at fin
      refine br_ok X (dk rfl) rfl (show ((85 : Nat) : Int) + 7 = ((92 : Nat) : Int) from rfl) (fun _ => ?_) (fun q => absurd (fun z => hz (nI_inj (b := 0) (by omega) (by omega) z)) q)
      refine fst1_ok X (dk rfl) rfl ?_
      exact reti_ok X hr hlk (bI_n false) (dk rfl) (fin) (Nat.le_of_ble_eq_true rfl) (Nat.le_of_ble_eq_true rfl)
  have loop : ∀ (n k m0 : Nat) (S : SS) (sk : PL2) (h1 : AH), runM (one ++ other) n S m0 sk = some (Sx, wy, mm) → S1 (one ++ other) S → (∀ z ∈ sk, z.1 < (one ++ other).length ∧ z.2 < (one ++ other).length) → k + n < 1000000 → m0 + n < 2 ^ 20 → STP B Q P h1 (upF F 50 ((F i1).1 ++ (F i2).1, (F i1).2 || (F i2).2)) (one ++ other) S sk.reverse (nI m0) 0 → FrU B Q (LSt P Q) h h1 → ∀ l : List (Nat × Value), lsel l [3, 0] = [(3, vI k), (0, .ref (P 4))] → WR p la e (rmD 4 0 0) s m args below meth c D cA B0 4 (maP B Q P ox kn F d r (one ++ other) Sx wy mm h) 48 l [] h1 0 0 := by
    intro n
    induction n with
    | zero =>
      intro k m0 S sk h1 hrun hS hin hk hm T1 f1 l hl
      cases sk with
      | nil =>
        rw [runM_nil] at hrun
        have e1 : S = Sx ∧ 0 = wy ∧ m0 = mm := by simpa using hrun
        obtain ⟨rfl, rfl, rfl⟩ := e1
        refine WS.sel [3, 0] hl ?_
        refine fst1_ok X (dk rfl) rfl ?_
        refine ldc_ok X csX4_59 (dk rfl) ?_
        refine br_ok X (dk rfl) rfl (show ((51 : Nat) : Int) + 30 = ((81 : Nat) : Int) from rfl) (fun q => absurd q (by rw [show (1000000 : Int32) = nI 1000000 by decide +kernel]; exact nI_ge (by omega) (by omega))) (fun _ => ?_)
        refine fst1_ok X (dk rfl) rfl ?_
        refine getf_ok X flX4_27 (dk rfl) T1.2.2.1 rfl ?_
        refine callVR_ok (ci := 4) (T := TX2) (N := 3) (av := []) (r := []) X E (s2_length h1 T1.2.2.2.2) lkX2_length mlX4_60 lmX2_length lpX2_length ⟨Nat.le_of_ble_eq_true rfl, Nat.le_of_ble_eq_true rfl⟩ ⟨Nat.le_of_ble_eq_true rfl, Nat.le_of_ble_eq_true rfl⟩ rfl ⟨_, T1.2.2.2.2.2.2.1⟩ (Nat.le_of_ble_eq_true rfl) (dk rfl) ?_
        rintro _ rfl
        refine br_ok X (dk rfl) rfl (show ((61 : Nat) : Int) + 20 = ((81 : Nat) : Int) from rfl) (fun _ => ?_) (fun q => absurd (by decide) q)
        exact out h1 _ T1 f1 _ rfl
      | cons z sk => rw [runM] at hrun; cases hrun
    | succ n ih =>
      intro k m0 S sk h1 hrun hS hin hk hm T1 f1 l hl
      cases sk with
      | nil =>
        rw [runM_nil] at hrun
        have e1 : S = Sx ∧ 0 = wy ∧ m0 = mm := by simpa using hrun
        obtain ⟨rfl, rfl, rfl⟩ := e1
        refine WS.sel [3, 0] hl ?_
        refine fst1_ok X (dk rfl) rfl ?_
        refine ldc_ok X csX4_59 (dk rfl) ?_
        refine br_ok X (dk rfl) rfl (show ((51 : Nat) : Int) + 30 = ((81 : Nat) : Int) from rfl) (fun q => absurd q (by rw [show (1000000 : Int32) = nI 1000000 by decide +kernel]; exact nI_ge (by omega) (by omega))) (fun _ => ?_)
        refine fst1_ok X (dk rfl) rfl ?_
        refine getf_ok X flX4_27 (dk rfl) T1.2.2.1 rfl ?_
        refine callVR_ok (ci := 4) (T := TX2) (N := 3) (av := []) (r := []) X E (s2_length h1 T1.2.2.2.2) lkX2_length mlX4_60 lmX2_length lpX2_length ⟨Nat.le_of_ble_eq_true rfl, Nat.le_of_ble_eq_true rfl⟩ ⟨Nat.le_of_ble_eq_true rfl, Nat.le_of_ble_eq_true rfl⟩ rfl ⟨_, T1.2.2.2.2.2.2.1⟩ (Nat.le_of_ble_eq_true rfl) (dk rfl) ?_
        rintro _ rfl
        refine br_ok X (dk rfl) rfl (show ((61 : Nat) : Int) + 20 = ((81 : Nat) : Int) from rfl) (fun _ => ?_) (fun q => absurd (by decide) q)
        exact out h1 _ T1 f1 _ rfl
      | cons z sk =>
        obtain ⟨u1, u2⟩ := z
        obtain ⟨hu1, hu2⟩ := hin (u1, u2) List.mem_cons_self
        rw [runM] at hrun
        by_cases h126 : 126 ≤ sk.length
        · rw [if_pos h126] at hrun
          cases hrun
        rw [if_neg h126] at hrun
        rw [List.reverse_cons] at T1
        obtain ⟨o1, o2, o3, o4⟩ := stepM_ok hX hS hu1 hu2
        have elen : (sk.reverse ++ [(u1, u2)]).length = sk.length + 1 := by rw [List.length_append, List.length_reverse, List.length_singleton]
        refine WS.sel [3, 0] hl ?_
        refine fst1_ok X (dk rfl) rfl ?_
        refine ldc_ok X csX4_59 (dk rfl) ?_
        refine br_ok X (dk rfl) rfl (show ((51 : Nat) : Int) + 30 = ((81 : Nat) : Int) from rfl) (fun q => absurd q (by rw [show (1000000 : Int32) = nI 1000000 by decide +kernel]; exact nI_ge (by omega) (by omega))) (fun _ => ?_)
        refine fst1_ok X (dk rfl) rfl ?_
        refine getf_ok X flX4_27 (dk rfl) T1.2.2.1 rfl ?_
        refine callVR_ok (ci := 4) (T := TX2) (N := 3) (av := []) (r := []) X E (s2_length h1 T1.2.2.2.2) lkX2_length mlX4_60 lmX2_length lpX2_length ⟨Nat.le_of_ble_eq_true rfl, Nat.le_of_ble_eq_true rfl⟩ ⟨Nat.le_of_ble_eq_true rfl, Nat.le_of_ble_eq_true rfl⟩ rfl ⟨_, T1.2.2.2.2.2.2.1⟩ (Nat.le_of_ble_eq_true rfl) (dk rfl) ?_
        rintro _ rfl
        rw [elen]
        refine br_ok X (dk rfl) rfl (show ((61 : Nat) : Int) + 20 = ((81 : Nat) : Int) from rfl) (fun q => absurd q (nI_nle (Nat.succ_pos _) (by omega))) (fun _ => ?_)
        refine fst1_ok X (dk rfl) rfl ?_
        refine getf_ok X flX4_56 (dk rfl) T1.2.2.1 rfl ?_
        refine br_ok X (dk rfl) rfl (show ((68 : Nat) : Int) + 13 = ((81 : Nat) : Int) from rfl) (fun q => absurd rfl q) (fun _ => ?_)
        refine fst1_ok X (dk rfl) rfl ?_
        refine callV_ok (ci := 6) (T := TX4) (N := 5) (av := []) (r := []) X E (s4_takeStep h1 Y bY T1 hX hS (by rw [List.length_reverse]; omega) hu1 hu2) lkX4_takeStep mlX4_61 lmX4_takeStep lpX4_takeStep ⟨Nat.le_of_ble_eq_true rfl, Nat.le_of_ble_eq_true rfl⟩ ⟨Nat.le_of_ble_eq_true rfl, Nat.le_of_ble_eq_true rfl⟩ rfl T1.2.2.1 (Nat.le_of_ble_eq_true rfl) (dk rfl) ?_
        rintro _ h2 ⟨rfl, T2, f2⟩
        refine fst1_ok X (dk rfl) rfl ?_
        refine br_ok X (dk rfl) rfl (show ((78 : Nat) : Int) + (-30) = ((48 : Nat) : Int) from rfl) (fun _ => ?_) (fun q => absurd trivial q)
        have f3 : Value.int (nI k + Int32.ofInt 1) = vI (k + 1) := congrArg Value.int (by rw [nI_1', nI_add])
        refine WS.sel (l' := [(3, vI (k + 1)), (0, .ref (P 4))]) [3, 0] (by rw [← f3]; rfl) ?_
        rw [← List.reverse_append, nI_1', nI_add] at T2
        have f12 := f1.trans f2
        by_cases hw : (stepM (one ++ other) S u1 u2).2.1 = 0
        · rw [if_pos hw] at hrun
          rw [hw] at T2
          exact ih (k + 1) (m0 + 1) _ _ h2 hrun o1 (fun z hz => (List.mem_append.mp hz).elim (o2 z) (fun q => hin z (List.mem_cons_of_mem _ q))) (by omega) (by omega) T2 f12 _ rfl
        · rw [if_neg hw] at hrun
          have e1 : (stepM (one ++ other) S u1 u2).1 = Sx ∧ (stepM (one ++ other) S u1 u2).2.1 = wy ∧ m0 + 1 = mm := by simpa using hrun
          obtain ⟨e1, e2, e3⟩ := e1
          rw [e1, e2, e3] at T2
          rw [e2] at hw o3
          refine fst1_ok X (dk rfl) rfl ?_
          refine ldc_ok X csX4_59 (dk rfl) ?_
          refine br_ok X (dk rfl) rfl (show ((51 : Nat) : Int) + 30 = ((81 : Nat) : Int) from rfl) (fun q => absurd q (by rw [show (1000000 : Int32) = nI 1000000 by decide +kernel]; exact nI_ge (by omega) (by omega))) (fun _ => ?_)
          refine fst1_ok X (dk rfl) rfl ?_
          refine getf_ok X flX4_27 (dk rfl) T2.2.2.1 rfl ?_
          refine callVR_ok (ci := 4) (T := TX2) (N := 3) (av := []) (r := []) X E (s2_length h2 T2.2.2.2.2) lkX2_length mlX4_60 lmX2_length lpX2_length ⟨Nat.le_of_ble_eq_true rfl, Nat.le_of_ble_eq_true rfl⟩ ⟨Nat.le_of_ble_eq_true rfl, Nat.le_of_ble_eq_true rfl⟩ rfl ⟨_, T2.2.2.2.2.2.2.1⟩ (Nat.le_of_ble_eq_true rfl) (dk rfl) ?_
          rintro _ rfl
          refine br_ok X (dk rfl) rfl (show ((61 : Nat) : Int) + 20 = ((81 : Nat) : Int) from rfl) (fun c1 => ?_) (fun c1 => ?_)
          · exact out h2 _ T2 f12 _ rfl
          · refine fst1_ok X (dk rfl) rfl ?_
            refine getf_ok X flX4_56 (dk rfl) T2.2.2.1 rfl ?_
            refine br_ok X (dk rfl) rfl (show ((68 : Nat) : Int) + 13 = ((81 : Nat) : Int) from rfl) (fun _ => ?_) (fun q => absurd (fun z => hw (nI_inj (b := 0) (by omega) (by omega) z)) q)
            exact out h2 _ T2 f12 _ rfl
  obtain ⟨⟨t0, e0, r1⟩, r2, r3, r4, r5⟩ := id C.2.2.2
  refine fst1_ok X (dk rfl) rfl ?_
  refine getf_ok X flX4_14 (dk rfl) r1 rfl ?_
  iterate 2 refine fst1_ok X (dk rfl) rfl ?_
  refine callVT_ok (ci := 7) (T := TX5) (N := 3) (av := [.ref (B i1), .ref (B i2)]) (r := []) X E (s5_becomeBoth h Y C.1 (i := 50) (by omega) (j := i1) h1i h1n (k := i2) h2i h2n (by rw [hl1, hl2, hrm]; omega)) lkX5_becomeBoth mlX4_31 lmX5_becomeBoth lpX5_becomeBoth ⟨Nat.le_of_ble_eq_true rfl, Nat.le_of_ble_eq_true rfl⟩ ⟨Nat.le_of_ble_eq_true rfl, Nat.le_of_ble_eq_true rfl⟩ rfl (C.1 50 (by omega)).2.1 (Nat.le_of_ble_eq_true rfl) (dk rfl) (fun h1 S1 f1 => ?_)
  have C1 := C.tm Y S1 f1
  obtain ⟨⟨t1v, e1v, g1⟩, -, -, -, g5⟩ := id C1.2.2.2
  obtain ⟨row, x1, x2⟩ := g5 60 (by decide) (by decide)
  refine fst1_ok X (dk rfl) rfl ?_
  refine getf_ok X flX4_20 (dk rfl) g1 rfl ?_
  refine fst1_ok X (dk rfl) rfl ?_
  refine callS_ok (av := [.ref (Q 60), .int (Int32.ofInt (-1))]) (r := []) X E (sJ7_fill h1 x1 x2 (Int32.ofInt (-1))) lkJ7_fill_53178 mlX4_35 lsJ7_fill_53178 ⟨Nat.le_of_ble_eq_true rfl, Nat.le_of_ble_eq_true rfl⟩ ⟨Nat.le_of_ble_eq_true rfl, Nat.le_of_ble_eq_true rfl⟩ (Nat.le_of_ble_eq_true rfl) (dk rfl) ?_
  rintro _ h2 ⟨rfl, y1, y2⟩
  have W1 := C1.2.2.2.prw (k := 0) (by decide)
  obtain ⟨⟨wv, wv1, wv2⟩, ⟨xs, xs1, xs2⟩, ys, ys1, ys2⟩ := id W1
  have q64 : Q 64 ≠ Q 60 := fun z => by have := Y.2 64 60 (by decide) (by decide) z; omega
  have q65 : Q 65 ≠ Q 60 := fun z => by have := Y.2 65 60 (by decide) (by decide) z; omega
  have W2 : PRW h2 (P 13) (Q 64) (Q 65) := ⟨⟨wv, wv1, by rw [y2 _ (k_ne wv2 x1 (by decide))]; exact wv2⟩, ⟨xs, by rw [y2 _ q64]; exact xs1, xs2⟩, ys, by rw [y2 _ q65]; exact ys1, ys2⟩
  have S2 : TS B Q h2 (upF F 50 ((F i1).1 ++ (F i2).1, (F i1).2 || (F i2).2)) := fun i hi => by
    obtain ⟨a1, a2, zs, a3, a4⟩ := S1 i hi
    exact ⟨a1, by rw [y2 _ (k_ne a2 x1 (by decide))]; exact a2, zs, by rw [y2 _ (fun z => by have := Y.2 _ _ (by omega) (by decide) z; omega)]; exact a3, a4⟩
  have g2 : h2 (P 4) = some (6, [.ref (B 50), .ref (Q 60), .ref (P 13), .int t1v, .int e1v]) := by rw [y2 _ (k_ne g1 x1 (by decide))]; exact g1
  refine fst1_ok X (dk rfl) rfl ?_
  refine getf_ok X flX4_27 (dk rfl) g2 rfl ?_
  refine callV_ok (ci := 4) (T := TX2) (N := 3) (av := []) (r := []) X E (s2_empty h2 W2) lkX2_empty mlX4_41 lmX2_empty lpX2_empty ⟨Nat.le_of_ble_eq_true rfl, Nat.le_of_ble_eq_true rfl⟩ ⟨Nat.le_of_ble_eq_true rfl, Nat.le_of_ble_eq_true rfl⟩ rfl W2.1.choose_spec.2 (Nat.le_of_ble_eq_true rfl) (dk rfl) ?_
  rintro _ h3 ⟨rfl, H3, f3⟩
  have g3 := f3.keep W2 g2 (by decide) (by decide)
  have hA := hAq (a := 64) (b := 65) Y (by decide) (by decide) (by decide) (by decide)
  have S3 := S2.frPw f3 W2 hA
  refine fst1_ok X (dk rfl) rfl ?_
  refine getf_ok X flX4_27 (dk rfl) g3 rfl ?_
  iterate 2 refine fst1_ok X (dk rfl) rfl ?_
  refine callVR_ok (ci := 7) (T := TX5) (N := 3) (av := []) (r := [vI 0, .ref (P 13)]) X E (s5_length h3 S3 h1i) lkX5_length mlX4_44 lmX5_length lpX5_length ⟨Nat.le_of_ble_eq_true rfl, Nat.le_of_ble_eq_true rfl⟩ ⟨Nat.le_of_ble_eq_true rfl, Nat.le_of_ble_eq_true rfl⟩ rfl ⟨_, (S3 i1 h1i).2.1⟩ (Nat.le_of_ble_eq_true rfl) (dk rfl) ?_
  rintro _ rfl
  rw [upF_ne _ _ h1n, hl1]
  refine callV_ok (ci := 4) (T := TX2) (N := 3) (av := [vI 0, vI one.length]) (r := []) X E (s2_add h3 H3 (fun z => by have := Y.2 64 65 (by decide) (by decide) z; omega) (ta := 0) (tb := one.length) ⟨by omega, by omega⟩ (by decide)) lkX2_add mlX4_48 lmX2_add lpX2_add ⟨Nat.le_of_ble_eq_true rfl, Nat.le_of_ble_eq_true rfl⟩ ⟨Nat.le_of_ble_eq_true rfl, Nat.le_of_ble_eq_true rfl⟩ rfl H3.2.2.1 (Nat.le_of_ble_eq_true rfl) (dk rfl) ?_
  rintro _ h4 ⟨rfl, H4, f4⟩
  have g4 := f4.keep H3.w g3 (by decide) (by decide)
  have S4 := S3.frPw f4 H3.w hA
  have R4 : h4 (Q 60) = some (107, (List.replicate 8 (Int32.ofInt (-1))).map Value.int) := by rw [f4 _ (k_ne (by rw [f3 _ (k_ne y1 W2.1.choose_spec.2 (by decide)) (Ne.symm q64) (Ne.symm q65)]; exact y1) H3.2.2.1 (by decide)) (Ne.symm q64) (Ne.symm q65), f3 _ (k_ne y1 W2.1.choose_spec.2 (by decide)) (Ne.symm q64) (Ne.symm q65)]; exact y1
  have T4 : STP B Q P h4 (upF F 50 ((F i1).1 ++ (F i2).1, (F i1).2 || (F i2).2)) (one ++ other) sN [(0, one.length)] t1v e1v := ⟨S4, NX, g4, ⟨_, R4, rfl, fun n hn => by rw [List.getElem?_replicate, if_pos hn]; rfl⟩, H4⟩
  iterate 2 refine fst1_ok X (dk rfl) rfl ?_
  refine putf_ok X flX4_52 ftX4_3 (Or.inl rfl) rfl rfl (dk rfl) T4.2.2.1 (Nat.le_of_ble_eq_true rfl) ?_
  have T5 := T4.fld (Int32.ofInt 0) e1v
  iterate 2 refine fst1_ok X (dk rfl) rfl ?_
  refine putf_ok X flX4_56 ftX4_4 (Or.inl rfl) rfl rfl (dk rfl) T5.2.2.1 (Nat.le_of_ble_eq_true rfl) ?_
  have T6 := T5.fld (Int32.ofInt 0) (Int32.ofInt 0)
  have hl3 : P 13 ∈ LSt P Q ∧ Q 64 ∈ LSt P Q ∧ Q 65 ∈ LSt P Q := ⟨List.mem_cons_of_mem _ (List.mem_cons_of_mem _ List.mem_cons_self), List.mem_cons_of_mem _ (List.mem_cons_of_mem _ (List.mem_cons_of_mem _ List.mem_cons_self)), List.mem_cons_of_mem _ (List.mem_cons_of_mem _ (List.mem_cons_of_mem _ (List.mem_cons_of_mem _ List.mem_cons_self)))⟩
  have f02 : FrU B Q (LSt P Q) h1 h2 := fun a _ ka => y2 a (fun z => ka (by rw [z]; exact List.mem_cons_of_mem _ List.mem_cons_self))
  have fall := (((((f1.u (LSt P Q)).trans f02).trans (f3.u hl3)).trans (f4.u hl3)).set (q := P 4) List.mem_cons_self (6, [.ref (B 50), .ref (Q 60), .ref (P 13), .int (Int32.ofInt 0), .int e1v])).set (q := P 4) List.mem_cons_self (6, [.ref (B 50), .ref (Q 60), .ref (P 13), .int (Int32.ofInt 0), .int (Int32.ofInt 0)])
  iterate 2 refine fst1_ok X (dk rfl) rfl ?_
  have h0l : 0 < (one ++ other).length := by have := bY.2.1; have := bY.2.2.2.1; omega
  exact loop mm 0 0 sN [(0, one.length)] _ hrun (fun x q hq => by cases hq) (fun z hz => by rw [List.mem_singleton.mp hz]; exact ⟨h0l, bY.2.2.2.1⟩) (by omega) (by omega) T6 fall _ rfl
end S18
end Uc18alike1
section Uc19clsm
/-! two terms made alike by classes: what the classes are, whoever makes them -/
/-- k tells the classes of places: like terms, the two terms, the parts of heads that are together -/
def GdK (X : List Nat) (n1 : Nat) (k : Nat → Nat) : Prop := k 0 = k n1 ∧ (∀ p q, p < X.length → q < X.length → sub' X p = sub' X q → k p = k q) ∧
  ∀ p q, p < X.length → q < X.length → k p = k q → 10 ≤ gl X p → 10 ≤ gl X q → gl X p = gl X q ∧ ∀ j, j < ga X p → k (ko X p j) = k (ko X q j)
def Sbk (n : Nat) (k k' : Nat → Nat) : Prop := ∀ p q, p < n → q < n → k p = k q → k' p = k' q
theorem Sbk.rf (n : Nat) (k : Nat → Nat) : Sbk n k k := fun _ _ _ _ h => h
theorem Sbk.tr {n : Nat} {k1 k2 k3 : Nat → Nat} (a : Sbk n k1 k2) (b : Sbk n k2 k3) : Sbk n k1 k3 := fun p q hp hq h => b p q hp hq (a p q hp hq h)
/-- the least ones -/
def MnK (X : List Nat) (n1 : Nat) (k : Nat → Nat) : Prop := GdK X n1 k ∧ ∀ k', GdK X n1 k' → Sbk X.length k k'
def AcK (X : List Nat) (k : Nat → Nat) : Prop := ∃ rk : Nat → Nat, (∀ p q, p < X.length → q < X.length → k p = k q → rk p = rk q) ∧ ∀ p, p < X.length → ∀ j, j < ga X p → rk (ko X p j) < rk p
def Gnk (n : Nat) (k : Nat → Nat) (ps : PL2) (x y : Nat) : Prop := ∀ k' : Nat → Nat, Sbk n k k' → (∀ z ∈ ps, k' z.1 = k' z.2) → k' x = k' y
def ClK (X : List Nat) (k : Nat → Nat) (ps : PL2) : Prop := ∀ p q, p < X.length → q < X.length → k p = k q → 10 ≤ gl X p → 10 ≤ gl X q → gl X p = gl X q ∧ ∀ j, j < ga X p → Gnk X.length k ps (ko X p j) (ko X q j)
/-- two classes together -/
def mgK (k : Nat → Nat) (a b : Nat) : Nat → Nat := fun i => if k i = b then a else k i
theorem mgK_sb (n : Nat) (k : Nat → Nat) (a b : Nat) : Sbk n k (mgK k a b) := fun p q _ _ h => by
  unfold mgK
  rw [h]
theorem ClK.skip {X : List Nat} {k : Nat → Nat} {z : Nat × Nat} {ps : PL2} (C : ClK X k (z :: ps)) (h1 : z.1 < X.length) (h2 : z.2 < X.length) (h : k z.1 = k z.2) : ClK X k ps := fun p q hp hq e g1 g2 => by
  obtain ⟨c1, c2⟩ := C p q hp hq e g1 g2
  refine ⟨c1, fun j hj k' hs hps => c2 j hj k' hs (fun y hy => ?_)⟩
  rcases List.mem_cons.mp hy with rfl | hy
  · exact hs _ _ h1 h2 h
  · exact hps y hy
/-- one class of both has no head -/
theorem ClK.one {X : List Nat} {k : Nat → Nat} {z : Nat × Nat} {ps : PL2} (C : ClK X k (z :: ps)) (h1 : z.1 < X.length) (h2 : z.2 < X.length) (hn : (∀ p, p < X.length → k p = k z.1 → gl X p < 10) ∨ ∀ p, p < X.length → k p = k z.2 → gl X p < 10) : ClK X (mgK k (k z.1) (k z.2)) ps := fun p q hp hq e g1 g2 => by
  have hs0 := mgK_sb X.length k (k z.1) (k z.2)
  have hz : mgK k (k z.1) (k z.2) z.1 = mgK k (k z.1) (k z.2) z.2 := by
    unfold mgK
    rw [if_pos rfl]
    split <;> rfl
  have key : k p = k q := by
    unfold mgK at e
    by_cases c1 : k p = k z.2
    · rw [if_pos c1] at e
      by_cases c2 : k q = k z.2
      · rw [c1, c2]
      · rw [if_neg c2] at e
        rcases hn with hn | hn
        · have := hn q hq e.symm; omega
        · have := hn p hp c1; omega
    · rw [if_neg c1] at e
      by_cases c2 : k q = k z.2
      · rw [if_pos c2] at e
        rcases hn with hn | hn
        · have := hn p hp e; omega
        · have := hn q hq c2; omega
      · rw [if_neg c2] at e
        exact e
  obtain ⟨c1, c2⟩ := C p q hp hq key g1 g2
  refine ⟨c1, fun j hj k' hs hps => c2 j hj k' (hs0.tr hs) (fun y hy => ?_)⟩
  rcases List.mem_cons.mp hy with rfl | hy
  · exact hs _ _ h1 h2 hz
  · exact hps y hy
theorem kdL_mem {X : List Nat} {a b n j i : Nat} (h : i < n) : (ko X a (j + i), ko X b (j + i)) ∈ kdL X a b n j := List.mem_of_getElem? (kdL_get X a b n j i h)
/-- both have heads, of one letter: their parts wait -/
theorem ClK.two {X : List Nat} {k : Nat → Nat} {z : Nat × Nat} {ps : PL2} (C : ClK X k (z :: ps)) (h1 : z.1 < X.length) (h2 : z.2 < X.length) {a b : Nat} (ha : a < X.length) (hb : b < X.length) (ka : k a = k z.1) (kb : k b = k z.2) (ga1 : 10 ≤ gl X a) (gb1 : 10 ≤ gl X b) (hg : gl X a = gl X b) : ClK X (mgK k (k z.1) (k z.2)) (kdL X a b (ga X a) 0 ++ ps) := fun p q hp hq e g1 g2 => by
  have hs0 := mgK_sb X.length k (k z.1) (k z.2)
  have hz : mgK k (k z.1) (k z.2) z.1 = mgK k (k z.1) (k z.2) z.2 := by
    unfold mgK
    rw [if_pos rfl]
    split <;> rfl
  have up : ∀ {x y : Nat}, Gnk X.length k (z :: ps) x y → Gnk X.length (mgK k (k z.1) (k z.2)) (kdL X a b (ga X a) 0 ++ ps) x y := fun {x y} g k' hs hps => g k' (hs0.tr hs) (fun y hy => by
    rcases List.mem_cons.mp hy with rfl | hy
    · exact hs _ _ h1 h2 hz
    · exact hps y (List.mem_append_right _ hy))
  have kid : ∀ j, j < ga X a → Gnk X.length (mgK k (k z.1) (k z.2)) (kdL X a b (ga X a) 0 ++ ps) (ko X a j) (ko X b j) := fun j hj k' hs hps => by
    have := hps _ (List.mem_append_left _ (kdL_mem (X := X) (a := a) (b := b) (j := 0) hj))
    rw [Nat.zero_add] at this
    exact this
  have cross : ∀ p q, p < X.length → q < X.length → k p = k z.1 → k q = k z.2 → 10 ≤ gl X p → 10 ≤ gl X q → gl X p = gl X q ∧ ∀ j, j < ga X p → Gnk X.length (mgK k (k z.1) (k z.2)) (kdL X a b (ga X a) 0 ++ ps) (ko X p j) (ko X q j) := fun p q hp hq e1 e2 g1 g2 => by
    obtain ⟨c1, c2⟩ := C p a hp ha (e1.trans ka.symm) g1 ga1
    obtain ⟨c3, c4⟩ := C b q hb hq (kb.trans e2.symm) gb1 g2
    refine ⟨c1.trans (hg.trans c3), fun j hj k' hs hps => ?_⟩
    have hja : j < ga X a := by rw [← ga_eq c1]; exact hj
    have x1 := up (c2 j hj) k' hs hps
    have x2 := kid j hja k' hs hps
    have x3 := up (c4 j (by rw [← ga_eq hg]; exact hja)) k' hs hps
    exact x1.trans (x2.trans x3)
  by_cases ek : k p = k q
  · obtain ⟨c1, c2⟩ := C p q hp hq ek g1 g2
    exact ⟨c1, fun j hj => up (c2 j hj)⟩
  · unfold mgK at e
    by_cases c1 : k p = k z.2
    · rw [if_pos c1] at e
      by_cases c2 : k q = k z.2
      · exact absurd (c1.trans c2.symm) ek
      · rw [if_neg c2] at e
        obtain ⟨x1, x2⟩ := cross q p hq hp e.symm c1 g2 g1
        exact ⟨x1.symm, fun j hj k' hs hps => (x2 j (by rw [ga_eq x1]; exact hj) k' hs hps).symm⟩
    · rw [if_neg c1] at e
      by_cases c2 : k q = k z.2
      · rw [if_pos c2] at e
        exact cross p q hp hq e c2 g1 g2
      · rw [if_neg c2] at e
        exact absurd e ek
/-- what good classes have together -/
theorem mgK_sound {X : List Nat} {k k' : Nat → Nat} {z : Nat × Nat} (h1 : z.1 < X.length) (h2 : z.2 < X.length) (hs : Sbk X.length k k') (hz : k' z.1 = k' z.2) : Sbk X.length (mgK k (k z.1) (k z.2)) k' := fun p q hp hq e => by
  unfold mgK at e
  by_cases c1 : k p = k z.2
  · rw [if_pos c1] at e
    have x1 := hs p z.2 hp h2 c1
    by_cases c2 : k q = k z.2
    · rw [x1, hs q z.2 hq h2 c2]
    · rw [if_neg c2] at e
      rw [x1, ← hz, hs z.1 q h1 hq e]
  · rw [if_neg c1] at e
    by_cases c2 : k q = k z.2
    · rw [if_pos c2] at e
      rw [hs q z.2 hq h2 c2, ← hz, hs p z.1 hp h1 e]
    · rw [if_neg c2] at e
      exact hs p q hp hq e
theorem GdK.heads {X : List Nat} {n1 : Nat} {k' : Nat → Nat} (G : GdK X n1 k') {k : Nat → Nat} {z : Nat × Nat} (h1 : z.1 < X.length) (h2 : z.2 < X.length) (hs : Sbk X.length k k') (hz : k' z.1 = k' z.2) {a b : Nat} (ha : a < X.length) (hb : b < X.length) (ka : k a = k z.1) (kb : k b = k z.2) (ga1 : 10 ≤ gl X a) (gb1 : 10 ≤ gl X b) : gl X a = gl X b ∧ ∀ j, j < ga X a → k' (ko X a j) = k' (ko X b j) :=
  G.2.2 a b ha hb (by rw [hs a z.1 ha h1 ka, hs b z.2 hb h2 kb, hz]) ga1 gb1
theorem ClK.end {X : List Nat} {n1 : Nat} {k : Nat → Nat} (C : ClK X k []) (h0 : k 0 = k n1) (hs : ∀ p q, p < X.length → q < X.length → sub' X p = sub' X q → k p = k q) : GdK X n1 k :=
  ⟨h0, hs, fun p q hp hq e g1 g2 => by
    obtain ⟨c1, c2⟩ := C p q hp hq e g1 g2
    exact ⟨c1, fun j hj => c2 j hj k (Sbk.rf _ _) (fun y hy => by simp at hy)⟩⟩
theorem MnK.iff {X : List Nat} {n1 : Nat} {k k' : Nat → Nat} (M : MnK X n1 k) (M' : MnK X n1 k') {p q : Nat} (hp : p < X.length) (hq : q < X.length) : k p = k q ↔ k' p = k' q := ⟨M.2 k' M'.1 p q hp hq, M'.2 k M.1 p q hp hq⟩
theorem AcK.of {X : List Nat} {n1 : Nat} {k k' : Nat → Nat} (M : MnK X n1 k) (M' : MnK X n1 k') (A : AcK X k) : AcK X k' := by
  obtain ⟨rk, r1, r2⟩ := A
  exact ⟨rk, fun p q hp hq e => r1 p q hp hq ((M.iff M' hp hq).mpr e), r2⟩
theorem sub_kid {X : List Nat} (hX : BX X) {p q : Nat} (hp : p < X.length) (hq : q < X.length) (e : sub' X p = sub' X q) : gl X p = gl X q ∧ ∀ j, j < ga X p → sub' X (ko X p j) = sub' X (ko X q j) := by
  have eg : gl X p = gl X q := by
    rw [sub_cons hX hp, sub_cons hX hq] at e
    exact (List.cons.inj e).1
  refine ⟨eg, fun j hj => ?_⟩
  have hj2 : j < ga X q := by rw [← ga_eq eg]; exact hj
  have a1 := ko_sub hX hp j (by omega)
  have a2 := ko_sub hX hq j (by omega)
  obtain ⟨k1, k2, -, -, -⟩ := ko_mono hX hp hj
  obtain ⟨l1, l2, -, -, -⟩ := ko_mono hX hq hj2
  rw [← (sub_sub hX hp (z := ko X p j) (by omega) k2).2, ← (sub_sub hX hq (z := ko X q j) (by omega) l2).2, show ko X p j - p = ko (sub' X p) 0 j by omega, show ko X q j - q = ko (sub' X q) 0 j by omega, e]
/-! the reference's classes -/
noncomputable def nuX (X : List Nat) (p : Nat) : Nat := Classical.epsilon (fun j => (tsN X X.length)[j]? = some (sub' X p))
theorem nuX_ok (X : List Nat) {p : Nat} (hp : p < X.length) : (tsN X X.length)[nuX X p]? = some (sub' X p) := by
  have h : ∃ j : Nat, (tsN X X.length)[j]? = some (sub' X p) := List.getElem?_of_mem ((tsN_mem X X.length _).mpr ⟨p, hp, rfl⟩)
  exact Classical.epsilon_spec h
theorem nuX_lt (X : List Nat) {p : Nat} (hp : p < X.length) : nuX X p < (tsN X X.length).length := (List.getElem?_eq_some_iff.mp (nuX_ok X hp)).1
theorem nuX_iff (X : List Nat) {p q : Nat} (hp : p < X.length) (hq : q < X.length) : nuX X p = nuX X q ↔ sub' X p = sub' X q := by
  have h1 := nuX_ok X hp
  have h2 := nuX_ok X hq
  constructor
  · intro e
    rw [e, h2] at h1
    exact (Option.some.inj h1).symm
  · intro e
    rw [e] at h1
    exact tsN_uq X X.length _ _ _ h1 h2
theorem nuX_un (X : List Nat) {p j : Nat} (hp : p < X.length) (h : (tsN X X.length)[j]? = some (sub' X p)) : j = nuX X p := tsN_uq X X.length _ _ _ h (nuX_ok X hp)
theorem nuX_sur (X : List Nat) {i : Nat} (hi : i < (tsN X X.length).length) : ∃ p, p < X.length ∧ nuX X p = i := by
  obtain ⟨p, hp, e⟩ := (tsN_mem X X.length _).mp (List.getElem_mem hi)
  exact ⟨p, hp, (nuX_un X hp (by rw [List.getElem?_eq_getElem hi, e])).symm⟩
theorem nuX_get (X : List Nat) {p : Nat} (hp : p < X.length) : (tsN X X.length).getD (nuX X p) [] = sub' X p := by rw [List.getD_eq_getElem?_getD, nuX_ok X hp]; rfl
theorem nuX_hd {X : List Nat} (hX : BX X) {p : Nat} (hp : p < X.length) : hdT (tsN X X.length) (nuX X p) = gl X p := by
  unfold hdT
  rw [nuX_get X hp, sub_cons hX hp]
  rfl
theorem nuX_pt {X : List Nat} (hX : BX X) {pt : List Nat} (H : PtX (tsN X X.length) pt (tsN X X.length).length 0) {p j : Nat} (hp : p < X.length) (hj : j < ga X p) : pt.getD (3 * nuX X p + j) 0 = nuX X (ko X p j) := by
  have h := H (nuX X p) j (nuX_lt X hp) (by rw [nuX_hd hX hp]; exact hj) (Or.inl (nuX_lt X hp))
  obtain ⟨k1, k2, -, -, k5⟩ := ko_mono hX hp hj
  rw [nuX_get X hp, show ko (sub' X p) 0 j = ko X p j - p by have := ko_sub hX hp j (by omega); omega, (sub_sub hX hp (z := ko X p j) (by omega) k2).2] at h
  exact nuX_un X k5 h
/-- the class of a place -/
noncomputable def oK (X : List Nat) (of' : List Nat) (p : Nat) : Nat := of'.getD (nuX X p) 0
theorem joinF_len {ts : List (List Nat)} {pt : List Nat} : ∀ (f : Nat) (of' : List Nat) (can : Bool) (one other : Nat) (o2 : List Nat) (c2 : Bool), joinF ts pt f of' can one other = some (o2, c2) → o2.length = of'.length ∧ (can = false → o2 = of' ∧ c2 = false)
  | 0, of', can, one, other, o2, c2, h => by cases h
  | f + 1, of', can, one, other, o2, c2, h => by
    unfold joinF at h
    by_cases c : of'.getD one 0 = of'.getD other 0 ∨ can = false
    · rw [if_pos c] at h
      simp only [Option.some.injEq, Prod.mk.injEq] at h
      obtain ⟨rfl, rfl⟩ := h
      exact ⟨rfl, fun z => ⟨rfl, z⟩⟩
    · rw [if_neg c] at h
      refine ⟨?_, fun z => absurd (Or.inr z) c⟩
      have loop : ∀ (a b n j : Nat) (o1 : List Nat) (c1 : Bool), o1.length = of'.length → joinL (joinF ts pt f) pt a b n j o1 c1 = some (o2, c2) → o2.length = of'.length := by
        intro a b n
        induction n with
        | zero =>
          intro j o1 c1 hl h
          simp only [joinL, Option.some.injEq, Prod.mk.injEq] at h
          obtain ⟨rfl, rfl⟩ := h
          exact hl
        | succ n ih =>
          intro j o1 c1 hl h
          rw [joinL] at h
          split at h
          · cases h
          · rename_i o3 c3 e
            exact ih (j + 1) o3 c3 ((joinF_len f o1 c1 _ _ o3 c3 e).1.trans hl) h
      split at h
      · split at h
        · exact loop _ _ _ _ _ _ (relF_len _ _ _ _) h
        · simp only [Option.some.injEq, Prod.mk.injEq] at h
          obtain ⟨rfl, rfl⟩ := h
          exact relF_len _ _ _ _
      · simp only [Option.some.injEq, Prod.mk.injEq] at h
        obtain ⟨rfl, rfl⟩ := h
        exact relF_len _ _ _ _
theorem oK_rel {X : List Nat} (h32 : (tsN X X.length).length ≤ 32) {of' : List Nat} (hl : of'.length = 32) (a b : Nat) {p : Nat} (hp : p < X.length) : oK X (relF of' a b (tsN X X.length).length) p = mgK (oK X of') a b p := by
  unfold oK mgK
  rw [relF_get hl h32]
  have := nuX_lt X hp
  by_cases c : of'.getD (nuX X p) 0 = b
  · rw [if_pos ⟨this, c⟩, if_pos c]
  · rw [if_neg (fun z => c z.2), if_neg c]
theorem ClK.congr {X : List Nat} (hX : BX X) {k k2 : Nat → Nat} {ps : PL2} (h : ∀ p, p < X.length → k p = k2 p) (C : ClK X k ps) : ClK X k2 ps := fun p q hp hq e g1 g2 => by
  obtain ⟨c1, c2⟩ := C p q hp hq (by rw [h p hp, h q hq]; exact e) g1 g2
  exact ⟨c1, fun j hj k' hs hps => c2 j hj k' (fun a b ha hb z => hs a b ha hb (by rw [← h a ha, ← h b hb]; exact z)) hps⟩
theorem Sbk.congr {n : Nat} {k k2 k' : Nat → Nat} (h : ∀ p, p < n → k p = k2 p) (C : Sbk n k k') : Sbk n k2 k' := fun p q hp hq e => C p q hp hq (by rw [h p hp, h q hq]; exact e)
def JoS (X : List Nat) (n1 : Nat) (pt : List Nat) (f : Nat) : Prop := ∀ (of' : List Nat) (z : Nat × Nat) (o2 : List Nat) (c2 : Bool) (ps : PL2), z.1 < X.length → z.2 < X.length → of'.length = 32 → joinF (tsN X X.length) pt f of' true (nuX X z.1) (nuX X z.2) = some (o2, c2) → ClK X (oK X of') (z :: ps) →
  (c2 = true → ClK X (oK X o2) ps ∧ Sbk X.length (oK X of') (oK X o2) ∧ oK X o2 z.1 = oK X o2 z.2) ∧ ∀ k', GdK X n1 k' → Sbk X.length (oK X of') k' → k' z.1 = k' z.2 → c2 = true ∧ Sbk X.length (oK X o2) k'
theorem joinL_no {ts : List (List Nat)} {pt : List Nat} {f a b : Nat} : ∀ (n j : Nat) (of' o2 : List Nat) (c2 : Bool), joinL (joinF ts pt f) pt a b n j of' false = some (o2, c2) → c2 = false
  | 0, j, of', o2, c2, h => by
    simp only [joinL, Option.some.injEq, Prod.mk.injEq] at h
    exact h.2.symm
  | n + 1, j, of', o2, c2, h => by
    rw [joinL] at h
    split at h
    · cases h
    · rename_i o3 c3 e
      rw [((joinF_len f of' false _ _ o3 c3 e).2 rfl).2] at h
      exact joinL_no n (j + 1) o3 o2 c2 h
theorem joinL_sim {X : List Nat} (hX : BX X) {n1 : Nat} {pt : List Nat} (H : PtX (tsN X X.length) pt (tsN X X.length).length 0) {f : Nat} (IH : JoS X n1 pt f) {u v : Nat} (hu : u < X.length) (hv : v < X.length) (hg : gl X u = gl X v) : ∀ (n j : Nat) (of' o2 : List Nat) (c2 : Bool) (ps : PL2), j + n = ga X u → of'.length = 32 → joinL (joinF (tsN X X.length) pt f) pt (nuX X u) (nuX X v) n j of' true = some (o2, c2) → ClK X (oK X of') (kdL X u v n j ++ ps) →
    (c2 = true → ClK X (oK X o2) ps ∧ Sbk X.length (oK X of') (oK X o2)) ∧ ∀ k', GdK X n1 k' → Sbk X.length (oK X of') k' → (∀ i, j ≤ i → i < j + n → k' (ko X u i) = k' (ko X v i)) → c2 = true ∧ Sbk X.length (oK X o2) k' := by
  intro n
  induction n with
  | zero =>
    intro j of' o2 c2 ps hj hl h C
    simp only [joinL, Option.some.injEq, Prod.mk.injEq] at h
    obtain ⟨rfl, rfl⟩ := h
    exact ⟨fun _ => ⟨C, Sbk.rf _ _⟩, fun k' hG hs _ => ⟨rfl, hs⟩⟩
  | succ n ih =>
    intro j of' o2 c2 ps hj hl h C
    have hju : j < ga X u := by omega
    have hjv : j < ga X v := by rw [← ga_eq hg]; exact hju
    have ku := (ko_mono hX hu hju).2.2.2.2
    have kv := (ko_mono hX hv hjv).2.2.2.2
    rw [joinL, nuX_pt hX H hu hju, nuX_pt hX H hv hjv] at h
    split at h
    · cases h
    · rename_i o3 c3 e
      have hl3 := (joinF_len f of' true _ _ o3 c3 e).1
      obtain ⟨i1, i2⟩ := IH of' (ko X u j, ko X v j) o3 c3 (kdL X u v n (j + 1) ++ ps) ku kv hl e C
      cases c3 with
      | false =>
        have hc2 := joinL_no n (j + 1) o3 o2 c2 h
        refine ⟨fun z => (by rw [hc2] at z; cases z), fun k' hG hs hk => ?_⟩
        have := (i2 k' hG hs (hk j (Nat.le_refl _) (by omega))).1
        cases this
      | true =>
        obtain ⟨a1, a2, a3⟩ := i1 rfl
        obtain ⟨b1, b2⟩ := ih (j + 1) o3 o2 c2 ps (by omega) (by omega) h a1
        refine ⟨fun z => ⟨(b1 z).1, a2.tr (b1 z).2⟩, fun k' hG hs hk => ?_⟩
        exact b2 k' hG (i2 k' hG hs (hk j (Nat.le_refl _) (by omega))).2 (fun i h1 h2 => hk i (by omega) (by omega))
theorem join_sim {X : List Nat} (hX : BX X) {n1 : Nat} {pt : List Nat} (H : PtX (tsN X X.length) pt (tsN X X.length).length 0) (h32 : (tsN X X.length).length ≤ 32) : ∀ f, JoS X n1 pt f := by
  intro f
  induction f with
  | zero => intro of' z o2 c2 ps h1 h2 hl h C; cases h
  | succ f IH =>
    intro of' z o2 c2 ps h1 h2 hl h C
    unfold joinF at h
    by_cases c : of'.getD (nuX X z.1) 0 = of'.getD (nuX X z.2) 0
    · rw [if_pos (Or.inl c)] at h
      simp only [Option.some.injEq, Prod.mk.injEq] at h
      obtain ⟨rfl, rfl⟩ := h
      exact ⟨fun _ => ⟨C.skip h1 h2 c, Sbk.rf _ _, c⟩, fun k' hG hs _ => ⟨rfl, hs⟩⟩
    · rw [if_neg (fun w => w.elim c (fun q => by cases q))] at h
      have hcg : ∀ p, p < X.length → mgK (oK X of') (oK X of' z.1) (oK X of' z.2) p = oK X (relF of' (of'.getD (nuX X z.1) 0) (of'.getD (nuX X z.2) 0) (tsN X X.length).length) p := fun p hp => (oK_rel h32 hl _ _ hp).symm
      have hz : oK X (relF of' (of'.getD (nuX X z.1) 0) (of'.getD (nuX X z.2) 0) (tsN X X.length).length) z.1 = oK X (relF of' (of'.getD (nuX X z.1) 0) (of'.getD (nuX X z.2) 0) (tsN X X.length).length) z.2 := by
        rw [← hcg z.1 h1, ← hcg z.2 h2]
        unfold mgK
        rw [if_pos rfl]
        split <;> rfl
      have hsb := (mgK_sb X.length (oK X of') (oK X of' z.1) (oK X of' z.2))
      have hsb2 : Sbk X.length (oK X of') (oK X (relF of' (of'.getD (nuX X z.1) 0) (of'.getD (nuX X z.2) 0) (tsN X X.length).length)) := fun p q hp hq e => by
        rw [← hcg p hp, ← hcg q hq]
        exact hsb p q hp hq e
      have nohead : ∀ w, w < X.length → headF (tsN X X.length) of' (of'.getD (nuX X w) 0) = none → ∀ p, p < X.length → oK X of' p = oK X of' w → gl X p < 10 := fun w hw hn p hp e => by
        have := headF_no hn (nuX_lt X hp) e
        rw [nuX_hd hX hp] at this
        exact this
      have simple : ((∀ p, p < X.length → oK X of' p = oK X of' z.1 → gl X p < 10) ∨ ∀ p, p < X.length → oK X of' p = oK X of' z.2 → gl X p < 10) → o2 = relF of' (of'.getD (nuX X z.1) 0) (of'.getD (nuX X z.2) 0) (tsN X X.length).length → c2 = true →
          (c2 = true → ClK X (oK X o2) ps ∧ Sbk X.length (oK X of') (oK X o2) ∧ oK X o2 z.1 = oK X o2 z.2) ∧ ∀ k', GdK X n1 k' → Sbk X.length (oK X of') k' → k' z.1 = k' z.2 → c2 = true ∧ Sbk X.length (oK X o2) k' := fun hn e1 e2 => by
        subst e1
        exact ⟨fun _ => ⟨(C.one h1 h2 hn).congr hX hcg, hsb2, hz⟩, fun k' hG hs hk => ⟨e2, (mgK_sound h1 h2 hs hk).congr hcg⟩⟩
      cases e1 : headF (tsN X X.length) of' (of'.getD (nuX X z.1) 0) with
      | none =>
        rw [e1] at h
        simp only [Option.some.injEq, Prod.mk.injEq] at h
        exact simple (Or.inl (nohead z.1 h1 e1)) h.1.symm h.2.symm
      | some a =>
        cases e2 : headF (tsN X X.length) of' (of'.getD (nuX X z.2) 0) with
        | none =>
          rw [e1, e2] at h
          simp only [Option.some.injEq, Prod.mk.injEq] at h
          exact simple (Or.inr (nohead z.2 h2 e2)) h.1.symm h.2.symm
        | some b =>
          rw [e1, e2] at h
          dsimp only at h
          obtain ⟨a1, a2, a3⟩ := headF_ok e1
          obtain ⟨b1, b2, b3⟩ := headF_ok e2
          obtain ⟨u, hu, rfl⟩ := nuX_sur X a1
          obtain ⟨v, hv, rfl⟩ := nuX_sur X b1
          rw [nuX_hd hX hu] at a3 h
          rw [nuX_hd hX hv] at b3 h
          by_cases hg : gl X u = gl X v
          · rw [if_pos hg] at h
            have C2 := ((C.two h1 h2 hu hv a2 b2 a3 b3 hg).congr hX hcg)
            obtain ⟨x1, x2⟩ := joinL_sim hX H IH hu hv hg (pF (gl X u)) 0 _ o2 c2 ps (Nat.zero_add _) (by rw [relF_len]; exact hl) h C2
            refine ⟨fun w => ⟨(x1 w).1, hsb2.tr (x1 w).2, (x1 w).2 _ _ h1 h2 hz⟩, fun k' hG hs hk => ?_⟩
            exact x2 k' hG ((mgK_sound h1 h2 hs hk).congr hcg) (fun i _ hi => (hG.heads h1 h2 hs hk hu hv a2 b2 a3 b3).2 i (by rw [Nat.zero_add] at hi; exact hi))
          · rw [if_neg hg] at h
            simp only [Option.some.injEq, Prod.mk.injEq] at h
            obtain ⟨-, rfl⟩ := h
            exact ⟨fun w => (by cases w), fun k' hG hs hk => absurd (hG.heads h1 h2 hs hk hu hv a2 b2 a3 b3).1 hg⟩
/-- the reference's classes are the least ones, or there are none -/
theorem joinF_mn {X : List Nat} {n1 : Nat} (hY : BY X n1) {pt : List Nat} (H : PtX (tsN X X.length) pt (tsN X X.length).length 0) {i0 i1 : Nat} {of' : List Nat} {c1 : Bool} (e0 : (tsN X X.length)[i0]? = some (sub' X 0)) (e1 : (tsN X X.length)[i1]? = some (sub' X n1)) (h : joinF (tsN X X.length) pt 33 (ofN X X.length) true i0 i1 = some (of', c1)) : (c1 = true → MnK X n1 (oK X of')) ∧ ((∃ k, GdK X n1 k) → c1 = true) := by
  have hX := hY.1
  have h0 : 0 < X.length := by have := hY.2.2.2.1; omega
  have hn := hY.2.2.2.1
  have h32 : (tsN X X.length).length ≤ 32 := Nat.le_trans (tsN_len X _) hX.2.2
  rw [nuX_un X h0 e0, nuX_un X hn e1] at h
  have hid : ∀ p, p < X.length → oK X (ofN X X.length) p = nuX X p := fun p hp => ofN_get X X.length hX.2.2 _ (nuX_lt X hp)
  have C0 : ClK X (oK X (ofN X X.length)) [(0, n1)] := fun p q hp hq e g1 g2 => by
    rw [hid p hp, hid q hq, nuX_iff X hp hq] at e
    obtain ⟨s1, s2⟩ := sub_kid hX hp hq e
    refine ⟨s1, fun j hj k' hs _ => ?_⟩
    have k1 := (ko_mono hX hp hj).2.2.2.2
    have k2 := (ko_mono hX hq (by rw [← ga_eq s1]; exact hj)).2.2.2.2
    exact hs _ _ k1 k2 (by rw [hid _ k1, hid _ k2, nuX_iff X k1 k2]; exact s2 j hj)
  obtain ⟨x1, x2⟩ := join_sim hX H h32 33 (ofN X X.length) (0, n1) of' c1 [] h0 hn (ofN_len X _) h C0
  have base : ∀ k', GdK X n1 k' → Sbk X.length (oK X (ofN X X.length)) k' := fun k' hG p q hp hq e => by
    rw [hid p hp, hid q hq, nuX_iff X hp hq] at e
    exact hG.2.1 p q hp hq e
  refine ⟨fun z => ⟨?_, fun k' hG => (x2 k' hG (base k' hG) hG.1).2⟩, fun ⟨k, hG⟩ => (x2 k hG (base k hG) hG.1).1⟩
  obtain ⟨y1, y2, y3⟩ := x1 z
  exact y1.end y3 (fun p q hp hq e => by unfold oK; rw [(nuX_iff X hp hq).mpr e])
end Uc19clsm
section Uc20clsw
/-! classes: none within itself; what a class stands for -/
theorem AcK.in {X : List Nat} (hX : BX X) {rk : Nat → Nat} (h : ∀ p, p < X.length → ∀ j, j < ga X p → rk (ko X p j) < rk p) {p : Nat} (hp : p < X.length) : ∀ (n z : Nat), z < n → p < z → z < p + tl X p → rk z < rk p := by
  intro n
  induction n with
  | zero => intro z hz; omega
  | succ n ih =>
    intro z hz h1 h2
    obtain ⟨a, j, a1, a2, a3, a4, a5, rfl⟩ := par_ex hX _ p z (Nat.le_refl _) hp h1 h2
    have k1 := h a a4 j a5
    rcases Nat.eq_or_lt_of_le a1 with e | e
    · subst e
      exact k1
    · have := ih a (by omega) e a3
      omega
theorem frF_yes {of' pt : List Nat} {g : List Bool} {a : Nat} : ∀ (n j : Nat), (∀ i, j ≤ i → i < j + n → g.getD (pcl of' pt a i) false = true) → frF of' pt g a n j = true
  | 0, j, h => rfl
  | n + 1, j, h => by
    have h0 := h j (Nat.le_refl _) (by omega)
    unfold pcl at h0
    unfold frF
    rw [if_pos h0]
    exact frF_yes n (j + 1) (fun i h1 h2 => h i (by omega) (by omega))
theorem psF_fix {ts : List (List Nat)} {of' pt : List Nat} {g : List Bool} : ∀ K, (psF ts of' pt g K).2 = false → (psF ts of' pt g K).1 = g ∧ ∀ k, k < K → g.getD (of'.getD k 0) false = true ∨ freeF ts of' pt g (headF ts of' (of'.getD k 0)) = false
  | 0, h => ⟨rfl, fun k hk => by omega⟩
  | K + 1, h => by
    rw [psF_succ] at h ⊢
    by_cases c : (psF ts of' pt g K).1.getD (of'.getD K 0) false = true
    · rw [if_pos c] at h ⊢
      obtain ⟨i1, i2⟩ := psF_fix K h
      refine ⟨i1, fun k hk => ?_⟩
      rcases Nat.lt_or_ge k K with z | z
      · exact i2 k z
      · have : k = K := by omega
        subst this
        rw [i1] at c
        exact Or.inl c
    · rw [if_neg c] at h ⊢
      by_cases d : freeF ts of' pt (psF ts of' pt g K).1 (headF ts of' (of'.getD K 0)) = true
      · rw [if_pos d] at h
        cases h
      · rw [if_neg d] at h ⊢
        obtain ⟨i1, i2⟩ := psF_fix K h
        refine ⟨i1, fun k hk => ?_⟩
        rcases Nat.lt_or_ge k K with z | z
        · exact i2 k z
        · have : k = K := by omega
          subst this
          rw [i1] at d
          exact Or.inr (Bool.eq_false_iff.mpr d)
theorem rdF_fix {ts : List (List Nat)} {of' pt : List Nat} : ∀ (f : Nat) (g g' : List Bool), rdF ts of' pt f g = some g' → ∀ k, k < ts.length → g'.getD (of'.getD k 0) false = true ∨ freeF ts of' pt g' (headF ts of' (of'.getD k 0)) = false
  | 0, g, g', h => by cases h
  | f + 1, g, g', h => by
    unfold rdF at h
    by_cases c : (psF ts of' pt g ts.length).2 = true
    · rw [if_pos c] at h
      exact rdF_fix f _ g' h
    · rw [if_neg c] at h
      have c0 : (psF ts of' pt g ts.length).2 = false := Bool.eq_false_iff.mpr c
      obtain ⟨i1, i2⟩ := psF_fix ts.length c0
      rw [i1] at h
      cases h
      exact i2
theorem rnF_yes {of' : List Nat} {g : List Bool} : ∀ (n k : Nat), (∀ i, k ≤ i → i < k + n → g.getD (of'.getD i 0) false = true) → rnF of' g n k = false
  | 0, k, h => rfl
  | n + 1, k, h => by
    unfold rnF
    rw [if_pos (h k (Nat.le_refl _) (by omega))]
    exact rnF_yes n (k + 1) (fun i h1 h2 => h i (by omega) (by omega))
/-- the reference: nothing within itself -/
theorem round_ok {X : List Nat} {n1 : Nat} (hX : BX X) {pt of' : List Nat} (H : PtX (tsN X X.length) pt (tsN X X.length).length 0) (M : MnK X n1 (oK X of')) {g : List Bool} (hR : rdF (tsN X X.length) of' pt 33 (List.replicate (tsN X X.length).length false) = some g) (G : GI (tsN X X.length) of' pt g) : rnF of' g (tsN X X.length).length 0 = false ↔ AcK X (oK X of') := by
  have kid : ∀ {p u j : Nat}, p < X.length → u < X.length → oK X of' p = oK X of' u → 10 ≤ gl X p → 10 ≤ gl X u → j < ga X p → j < ga X u ∧ oK X of' (ko X p j) = pcl of' pt (nuX X u) j := fun {p u j} hp hu e g1 g2 hj => by
    obtain ⟨x1, x2⟩ := M.1.2.2 p u hp hu e g1 g2
    have hju : j < ga X u := by rw [← ga_eq x1]; exact hj
    refine ⟨hju, ?_⟩
    rw [x2 j hj]
    unfold pcl oK
    rw [nuX_pt hX H hu hju]
  constructor
  · intro hn
    obtain ⟨rk, K, r1, r2, r3⟩ := G
    have gone : ∀ p, p < X.length → g.getD (oK X of' p) false = true := fun p hp => rnF_no _ 0 hn (nuX X p) (Nat.zero_le _) (by have := nuX_lt X hp; omega)
    refine ⟨fun p => rk (oK X of' p), fun p q hp hq e => congrArg rk e, fun p hp j hj => ?_⟩
    have g10 := (ga_pos (X := X) (p := p) (by omega)).1
    cases e : headF (tsN X X.length) of' (oK X of' p) with
    | none =>
      have := headF_no e (nuX_lt X hp) rfl
      rw [nuX_hd hX hp] at this
      omega
    | some a =>
      obtain ⟨a1, a2, a3⟩ := headF_ok e
      obtain ⟨u, hu, rfl⟩ := nuX_sur X a1
      rw [nuX_hd hX hu] at a3
      obtain ⟨y1, y2⟩ := kid hp hu a2.symm g10 a3 hj
      have z := r3 _ (gone p hp) _ e j (by rw [nuX_hd hX hu]; exact y1)
      show rk (oK X of' (ko X p j)) < rk (oK X of' p)
      rw [y2]
      exact z.2
  · rintro ⟨rk, r1, r2⟩
    have key : ∀ n p, p < X.length → rk p < n → g.getD (oK X of' p) false = true := by
      intro n
      induction n with
      | zero => intro p hp h; omega
      | succ n ih =>
        intro p hp h
        rcases rdF_fix _ _ _ hR (nuX X p) (nuX_lt X hp) with z | z
        · exact z
        · exfalso
          cases e : headF (tsN X X.length) of' (of'.getD (nuX X p) 0) with
          | none =>
            rw [e] at z
            cases z
          | some a =>
            rw [e] at z
            obtain ⟨a1, a2, a3⟩ := headF_ok e
            obtain ⟨u, hu, rfl⟩ := nuX_sur X a1
            rw [nuX_hd hX hu] at a3
            have ru := r1 u p hu hp a2
            have : freeF (tsN X X.length) of' pt g (some (nuX X u)) = true := by
              refine frF_yes _ 0 (fun i _ hi => ?_)
              rw [nuX_hd hX hu, Nat.zero_add] at hi
              have hiu : i < ga X u := hi
              have k5 := (ko_mono hX hu hiu).2.2.2.2
              unfold pcl
              rw [nuX_pt hX H hu hiu]
              exact ih (ko X u i) k5 (by have := r2 u hu i hiu; omega)
            rw [this] at z
            cases z
    refine rnF_yes _ 0 (fun i _ hi => ?_)
    rw [Nat.zero_add] at hi
    obtain ⟨p, hp, rfl⟩ := nuX_sur X hi
    exact key _ p hp (Nat.lt_succ_self _)
/-- what names stand for, out of classes: a head, or the least name -/
def SKP (X : List Nat) (k : Nat → Nat) (S : SS) : Prop := (∀ x q, S x = some q → x < 8 ∧ q < X.length ∧ ∃ p, p < X.length ∧ gl X p = x ∧ k p = k q ∧ (10 ≤ gl X q ∨ (gl X q < x ∧ ∀ z, z < X.length → k z = k q → gl X q ≤ gl X z ∧ gl X z < 10))) ∧
  ∀ p, p < X.length → gl X p < 10 → S (gl X p) = none → ∀ z, z < X.length → k z = k p → gl X p ≤ gl X z ∧ gl X z < 10
theorem SKP.s1 {X : List Nat} {k : Nat → Nat} {S : SS} (H : SKP X k S) : S1 X S := fun x q e => by
  obtain ⟨h1, h2, p, -, -, -, h4⟩ := H.1 x q e
  exact ⟨h1, h2, fun z => h4.elim (fun w => by omega) (fun w => w.1)⟩
theorem name_sub {X : List Nat} (hX : BX X) {p : Nat} (hp : p < X.length) (h : gl X p < 10) : sub' X p = [gl X p] := sub_leaf hX hp (ga_name h)
theorem SKP.ac {X : List Nat} {n1 : Nat} (hX : BX X) {k : Nat → Nat} {S : SS} (H : SKP X k S) (G : GdK X n1 k) (A : AcK X k) : Ac X S := by
  obtain ⟨rk, r1, r2⟩ := A
  have hrN : ∀ x p, p < X.length → gl X p = x → x < 10 → rk (fpN x X) = rk p := fun x p hp e hx => by
    have hm : x ∈ X := by rw [← e]; exact List.mem_of_getElem? (gl_get hp)
    have h1 := fpN_mem hm
    have h2 : gl X (fpN x X) = x := by
      have key : ∀ (ys : List Nat), x ∈ ys → ys.getD (fpN x ys) 0 = x := by
        intro ys
        induction ys with
        | nil => intro h; simp at h
        | cons y r ih =>
          intro h
          by_cases c : y = x
          · subst c
            rw [fpN_eq]
            rfl
          · rw [fpN_ne c]
            exact ih ((List.mem_cons.mp h).resolve_left (fun z => c z.symm))
      exact key X hm
    exact r1 _ _ h1 hp (G.2.1 _ _ h1 hp (by rw [name_sub hX h1 (by omega), name_sub hX hp (by omega), h2, e]))
  refine ⟨fun x => if x < 16 then rk (fpN x X) * 16 + x else 0, sJ (fun x => rk (fpN x X) * 16 + x) 16 + 1, fun x => ?_, fun x q e i hi hn => ?_⟩
  · dsimp only
    split
    · rename_i h
      have := sJ_mem (f := fun x => rk (fpN x X) * 16 + x) h
      omega
    · omega
  · obtain ⟨h1, h2, p, h3, h4, h5, h6⟩ := H.1 x q e
    dsimp only
    rw [if_pos (by omega), if_pos (by omega)]
    have t3 := (bx_tl hX h2).2.2
    rw [hrN (gl X (q + i)) (q + i) (by omega) rfl hn, hrN x p h3 h4 (by omega), r1 p q h3 h2 h5]
    rcases h6 with g | ⟨g, -⟩
    · have hi0 : i ≠ 0 := fun z => by
        rw [z, Nat.add_zero] at hn
        omega
      have := AcK.in hX r2 h2 (q + i + 1) (q + i) (by omega) (by omega) (by omega)
      omega
    · have ht : tl X q = 1 := tl_leaf hX h2 (ga_name (by omega))
      have : i = 0 := by omega
      subst this
      rw [Nat.add_zero]
      omega
/-- rows behind each other, one for each part -/
def cK (W : Nat → List Nat) (X : List Nat) (p : Nat) : Nat → Nat → List Nat
  | 0, _ => []
  | n + 1, j => W (ko X p j) ++ cK W X p n (j + 1)
theorem cK_congr {W W' : Nat → List Nat} {X : List Nat} {p : Nat} : ∀ (n j : Nat), (∀ i, j ≤ i → i < j + n → W (ko X p i) = W' (ko X p i)) → cK W X p n j = cK W' X p n j
  | 0, j, h => rfl
  | n + 1, j, h => by
    show W (ko X p j) ++ cK W X p n (j + 1) = W' (ko X p j) ++ cK W' X p n (j + 1)
    rw [h j (Nat.le_refl _) (by omega), cK_congr n (j + 1) (fun i h1 h2 => h i (by omega) (by omega))]
theorem cK_two {W : Nat → List Nat} {X : List Nat} {p q : Nat} : ∀ (n j : Nat), (∀ i, j ≤ i → i < j + n → W (ko X p i) = W (ko X q i)) → cK W X p n j = cK W X q n j
  | 0, j, h => rfl
  | n + 1, j, h => by
    show W (ko X p j) ++ cK W X p n (j + 1) = W (ko X q j) ++ cK W X q n (j + 1)
    rw [h j (Nat.le_refl _) (by omega), cK_two n (j + 1) (fun i h1 h2 => h i (by omega) (by omega))]
theorem sub_kids {X : List Nat} (hX : BX X) {p : Nat} (hp : p < X.length) : ∀ (n j : Nat), j + n = ga X p → (X.drop (ko X p j)).take (p + tl X p - ko X p j) = cK (sub' X) X p n j
  | 0, j, h => by
    rw [Nat.add_zero] at h
    subst h
    rw [ko_last hX hp, Nat.sub_self, List.take_zero]
    rfl
  | n + 1, j, h => by
    have hj : j < ga X p := by omega
    obtain ⟨k1, k2, k3, k4, k5⟩ := ko_mono hX hp hj
    have ih := sub_kids hX hp n (j + 1) (by omega)
    show _ = sub' X (ko X p j) ++ cK (sub' X) X p n (j + 1)
    rw [← ih, show p + tl X p - ko X p j = tl X (ko X p j) + (p + tl X p - ko X p (j + 1)) by show _ = tl X (ko X p j) + (p + tl X p - (ko X p j + tl X (ko X p j))); omega, List.take_add, List.drop_drop]
    rfl
theorem sub_hd {X : List Nat} (hX : BX X) {p : Nat} (hp : p < X.length) : sub' X p = gl X p :: cK (sub' X) X p (ga X p) 0 := by
  rw [sub_cons hX hp, ← sub_kids hX hp (ga X p) 0 (Nat.zero_add _)]
  show gl X p :: (X.drop (p + 1)).take (tl X p - 1) = gl X p :: (X.drop (p + 1)).take (p + tl X p - (p + 1))
  rw [show p + tl X p - (p + 1) = tl X p - 1 by omega]
theorem exF_cK (E : Nat → List Nat) {X : List Nat} {p : Nat} : ∀ (n j : Nat), exF E (cK (sub' X) X p n j) = cK (fun q => exF E (sub' X q)) X p n j
  | 0, j => rfl
  | n + 1, j => by
    show exF E (sub' X (ko X p j) ++ cK (sub' X) X p n (j + 1)) = exF E (sub' X (ko X p j)) ++ cK (fun q => exF E (sub' X q)) X p n (j + 1)
    rw [exF_app, exF_cK E n (j + 1)]
theorem exF_hd {X : List Nat} (hX : BX X) (E : Nat → List Nat) {p : Nat} (hp : p < X.length) (h : 10 ≤ gl X p) : exF E (sub' X p) = gl X p :: cK (fun q => exF E (sub' X q)) X p (ga X p) 0 := by
  rw [sub_hd hX hp, exF_cons, exF_cK]
  unfold exN
  rw [if_neg (by omega)]
  rfl
theorem exF_nm {X : List Nat} (hX : BX X) (E : Nat → List Nat) {p : Nat} (hp : p < X.length) (h : gl X p < 10) : exF E (sub' X p) = E (gl X p) := by
  rw [name_sub hX hp h, exF_cons]
  unfold exN
  rw [if_pos h]
  exact List.append_nil _
/-- a name: its class has no head, and it comes to the least; or it comes to what a head comes to -/
theorem SKP.nm {X : List Nat} {n1 : Nat} (hX : BX X) {k : Nat → Nat} {S : SS} (H : SKP X k S) (G : GdK X n1 k) {E : Nat → List Nat} (hE : ExP X S E) {p : Nat} (hp : p < X.length) (h : gl X p < 10) :
    (∃ q, q < X.length ∧ k q = k p ∧ gl X q < 10 ∧ (∀ z, z < X.length → k z = k p → gl X q ≤ gl X z ∧ gl X z < 10) ∧ exF E (sub' X p) = [gl X q]) ∨ ∃ q, q < X.length ∧ k q = k p ∧ 10 ≤ gl X q ∧ exF E (sub' X p) = exF E (sub' X q) := by
  rw [exF_nm hX E hp h]
  have e := hE (gl X p)
  cases es : S (gl X p) with
  | none =>
    rw [es] at e
    exact Or.inl ⟨p, hp, rfl, h, H.2 p hp h es, e⟩
  | some q =>
    rw [es] at e
    obtain ⟨h1, h2, u, h3, h4, h5, h6⟩ := H.1 _ q es
    have kpu : k p = k u := G.2.1 p u hp h3 (by rw [name_sub hX hp h, name_sub hX h3 (by omega), h4])
    have kq : k q = k p := (kpu.trans h5).symm
    rcases h6 with g | ⟨g1, g2⟩
    · exact Or.inr ⟨q, h2, kq, g, e⟩
    · have gq := (g2 q h2 rfl).2
      refine Or.inl ⟨q, h2, kq, gq, fun z hz ez => g2 z hz (by rw [ez, kq]), ?_⟩
      rw [e]
      show exF E (sub' X q) = [gl X q]
      rw [exF_nm hX E h2 gq]
      have e2 := hE (gl X q)
      cases es2 : S (gl X q) with
      | none =>
        rw [es2] at e2
        exact e2
      | some q2 =>
        exfalso
        obtain ⟨m1, m2, u2, m3, m4, m5, m6⟩ := H.1 _ q2 es2
        have kq2 : k q = k u2 := G.2.1 q u2 h2 m3 (by rw [name_sub hX h2 gq, name_sub hX m3 (by omega), m4])
        have := g2 q2 m2 (by rw [← m5, ← kq2])
        rcases m6 with m6 | ⟨m6, -⟩ <;> omega
/-- places of one class come to the same -/
theorem SKP.same {X : List Nat} {n1 : Nat} (hX : BX X) {k : Nat → Nat} {S : SS} (H : SKP X k S) (G : GdK X n1 k) (A : AcK X k) {E : Nat → List Nat} (hE : ExP X S E) : ∀ p q, p < X.length → q < X.length → k p = k q → exF E (sub' X p) = exF E (sub' X q) := by
  obtain ⟨rk, r1, r2⟩ := A
  have key : ∀ n p q, rk p < n → p < X.length → q < X.length → k p = k q → exF E (sub' X p) = exF E (sub' X q) := by
    intro n
    induction n with
    | zero => intro p q h; omega
    | succ n ih =>
      intro p q hr hp hq e
      have hh : ∀ a b, a < X.length → b < X.length → k a = k b → k a = k p → 10 ≤ gl X a → 10 ≤ gl X b → exF E (sub' X a) = exF E (sub' X b) := fun a b ha hb e1 e2 g1 g2 => by
        obtain ⟨x1, x2⟩ := G.2.2 a b ha hb e1 g1 g2
        rw [exF_hd hX E ha g1, exF_hd hX E hb g2, x1, ga_eq x1, cK_two (W := fun q => exF E (sub' X q)) (p := a) (q := b) (ga X b) 0 (fun i _ hi => ?_)]
        rw [Nat.zero_add] at hi
        have hia : i < ga X a := by rw [ga_eq x1]; exact hi
        have ra := r1 a p ha hp e2
        exact ih _ _ (by have := r2 a ha i hia; omega) (ko_mono hX ha hia).2.2.2.2 (ko_mono hX hb hi).2.2.2.2 (x2 i hia)
      by_cases gp : gl X p < 10
      · rcases H.nm hX G hE hp gp with ⟨u, u1, u2, u3, u4, u5⟩ | ⟨u, u1, u2, u3, u4⟩
        · by_cases gq : gl X q < 10
          · rcases H.nm hX G hE hq gq with ⟨v, v1, v2, v3, v4, v5⟩ | ⟨v, v1, v2, v3, v4⟩
            · rw [u5, v5]
              have a1 := (u4 v v1 (by rw [v2, e])).1
              have a2 := (v4 u u1 (by rw [u2, e])).1
              rw [show gl X u = gl X v by omega]
            · have := (u4 v v1 (by rw [v2, e])).2
              omega
          · have := (u4 q hq e.symm).2
            omega
        · by_cases gq : gl X q < 10
          · rcases H.nm hX G hE hq gq with ⟨v, v1, v2, v3, v4, v5⟩ | ⟨v, v1, v2, v3, v4⟩
            · have := (v4 u u1 (by rw [u2, e])).2
              omega
            · rw [u4, v4]
              exact hh u v u1 v1 (by rw [u2, v2, e]) u2 u3 v3
          · rw [u4]
            exact hh u q u1 hq (by rw [u2, e]) u2 u3 (by omega)
      · by_cases gq : gl X q < 10
        · rcases H.nm hX G hE hq gq with ⟨v, v1, v2, v3, v4, v5⟩ | ⟨v, v1, v2, v3, v4⟩
          · have := (v4 p hp e).2
            omega
          · rw [v4]
            exact hh p v hp v1 (by rw [v2, e]) rfl (by omega) v3
        · exact hh p q hp hq e rfl (by omega) (by omega)
  exact fun p q hp hq e => key _ p q (Nat.lt_succ_self _) hp hq e
theorem leF_ex {ts : List (List Nat)} {of' : List Nat} {its : Nat} : ∀ K, leF ts of' its K = 8 ∨ ∃ i, i < K ∧ of'.getD i 0 = its ∧ hdT ts i = leF ts of' its K
  | 0 => Or.inl rfl
  | K + 1 => by
    rw [leF_succ]
    by_cases c : of'.getD K 0 = its
    · rw [if_pos c]
      rcases Nat.le_total (leF ts of' its K) (hdT ts K) with z | z
      · rw [Nat.min_eq_left z]
        rcases leF_ex (ts := ts) (of' := of') (its := its) K with y | ⟨i, i1, i2, i3⟩
        · exact Or.inl y
        · exact Or.inr ⟨i, by omega, i2, i3⟩
      · rw [Nat.min_eq_right z]
        exact Or.inr ⟨K, by omega, c, rfl⟩
    · rw [if_neg c]
      rcases leF_ex (ts := ts) (of' := of') (its := its) K with y | ⟨i, i1, i2, i3⟩
      · exact Or.inl y
      · exact Or.inr ⟨i, by omega, i2, i3⟩
/-- what the reference tells of a class -/
theorem wcF_rel {X : List Nat} {n1 : Nat} (hX : BX X) {pt of' : List Nat} (HP : PtX (tsN X X.length) pt (tsN X X.length).length 0) {S : SS} (H : SKP X (oK X of') S) (G : GdK X n1 (oK X of')) (A : AcK X (oK X of')) {E : Nat → List Nat} (hE : ExP X S E) : ∀ (f p : Nat) (r : Option (List Nat)) (C N : Nat), p < X.length → wcF (tsN X X.length) of' pt f (oK X of' p) = some (r, C, N) →
    ((exF E (sub' X p)).length ≤ 16 → r = some (exF E (sub' X p))) ∧ (16 < (exF E (sub' X p)).length → r = none) := by
  have same := H.same hX G A hE
  intro f
  induction f with
  | zero => intro p r C N hp h; cases h
  | succ f ih =>
    intro p r C N hp h
    unfold wcF at h
    cases e : headF (tsN X X.length) of' (oK X of' p) with
    | none =>
      rw [e] at h
      simp only [Option.some.injEq, Prod.mk.injEq] at h
      obtain ⟨rfl, -, -⟩ := h
      have nh : ∀ z, z < X.length → oK X of' z = oK X of' p → gl X z < 10 := fun z hz ez => by
        have := headF_no e (nuX_lt X hz) ez
        rw [nuX_hd hX hz] at this
        exact this
      rcases H.nm hX G hE hp (nh p hp rfl) with ⟨u, u1, u2, u3, u4, u5⟩ | ⟨u, u1, u2, u3, u4⟩
      · rw [u5]
        have a1 : leF (tsN X X.length) of' (oK X of' p) (tsN X X.length).length ≤ gl X u := by
          have := leF_le (ts := tsN X X.length) (of' := of') (its := oK X of' p) (i := nuX X u) u2 (nuX_lt X u1)
          rw [nuX_hd hX u1] at this
          exact this
        have u8 := gl_8 hX u1 u3
        have a2 : gl X u ≤ leF (tsN X X.length) of' (oK X of' p) (tsN X X.length).length := by
          rcases leF_ex (ts := tsN X X.length) (of' := of') (its := oK X of' p) (tsN X X.length).length with y | ⟨i, i1, i2, i3⟩
          · omega
          · obtain ⟨z, hz, rfl⟩ := nuX_sur X i1
            rw [nuX_hd hX hz] at i3
            have := (u4 z hz i2).1
            omega
        rw [show leF (tsN X X.length) of' (oK X of' p) (tsN X X.length).length = gl X u by omega]
        exact ⟨fun _ => rfl, fun z => by simp at z⟩
      · have := nh u u1 u2
        omega
    | some a =>
      rw [e] at h
      dsimp only at h
      obtain ⟨a1, a2, a3⟩ := headF_ok e
      obtain ⟨u, hu, rfl⟩ := nuX_sur X a1
      rw [nuX_hd hX hu] at a3 h
      rw [← same u p hu hp a2, exF_hd hX E hu a3]
      have loop : ∀ (n j : Nat) (made : List Nat) (C N : Nat) (r : Option (List Nat)) (C' N' : Nat), j + n = ga X u → made.length ≤ 16 → wcL (wcF (tsN X X.length) of' pt f) of' pt (nuX X u) n j made C N = some (r, C', N') →
          ((made ++ cK (fun q => exF E (sub' X q)) X u n j).length ≤ 16 → r = some (made ++ cK (fun q => exF E (sub' X q)) X u n j)) ∧ (16 < (made ++ cK (fun q => exF E (sub' X q)) X u n j).length → r = none) := by
        intro n
        induction n with
        | zero =>
          intro j made C N r C' N' hj hm h
          simp only [wcL, Option.some.injEq, Prod.mk.injEq] at h
          obtain ⟨rfl, -, -⟩ := h
          rw [show cK (fun q => exF E (sub' X q)) X u 0 j = [] from rfl, List.append_nil]
          exact ⟨fun _ => rfl, fun z => by omega⟩
        | succ n ihn =>
          intro j made C N r C' N' hj hm h
          have hju : j < ga X u := by omega
          have k5 := (ko_mono hX hu hju).2.2.2.2
          rw [wcL, nuX_pt hX HP hu hju] at h
          have ec : cK (fun q => exF E (sub' X q)) X u (n + 1) j = exF E (sub' X (ko X u j)) ++ cK (fun q => exF E (sub' X q)) X u n (j + 1) := rfl
          rw [ec, ← List.append_assoc]
          have hlen : (made ++ exF E (sub' X (ko X u j)) ++ cK (fun q => exF E (sub' X q)) X u n (j + 1)).length = made.length + (exF E (sub' X (ko X u j))).length + (cK (fun q => exF E (sub' X q)) X u n (j + 1)).length := by rw [List.length_append, List.length_append]
          split at h
          · cases h
          · rename_i c1 n1 e1
            simp only [Option.some.injEq, Prod.mk.injEq] at h
            obtain ⟨rfl, -, -⟩ := h
            have := ih (ko X u j) none c1 n1 k5 e1
            refine ⟨fun z => ?_, fun _ => rfl⟩
            have := this.1 (by omega)
            cases this
          · rename_i x c1 n1 e1
            have i1 := ih (ko X u j) (some x) c1 n1 k5 e1
            have hx16 : (exF E (sub' X (ko X u j))).length ≤ 16 := by
              rcases Nat.lt_or_ge 16 (exF E (sub' X (ko X u j))).length with z | z
              · have := i1.2 z
                cases this
              · exact z
            have ex := Option.some.inj (i1.1 hx16)
            subst ex
            split at h
            · rename_i c
              simp only [Option.some.injEq, Prod.mk.injEq] at h
              obtain ⟨rfl, -, -⟩ := h
              exact ⟨fun z => by omega, fun _ => rfl⟩
            · rename_i c
              exact ihn (j + 1) (made ++ exF E (sub' X (ko X u j))) _ _ r C' N' (by omega) (by rw [List.length_append]; omega) h
      have := loop (ga X u) 0 [gl X u] 1 1 r C N (Nat.zero_add _) (Nat.le_of_ble_eq_true rfl) h
      exact this
/-- what the reference tells of all names -/
theorem anF_rel {X : List Nat} {n1 : Nat} (hX : BX X) {pt of' : List Nat} (HP : PtX (tsN X X.length) pt (tsN X X.length).length 0) {S : SS} (H : SKP X (oK X of') S) (G : GdK X n1 (oK X of')) (A : AcK X (oK X of')) {E : Nat → List Nat} (hE : ExP X S E) {F : Nat} : ∀ (n k : Nat) (rows : List (List Nat)) (C N : Nat) (r : Option (List (List Nat))) (C' N' : Nat), k + n = (tsN X X.length).length → rows.length = 8 → (∀ x, x < 8 → rows.getD x [] = E x ∨ (rows.getD x [] = [x] ∧ ∃ i, k ≤ i ∧ i < k + n ∧ hdT (tsN X X.length) i = x)) → anF (tsN X X.length) of' pt F n k rows C N = some (r, C', N') →
    ((∀ x, x < 8 → (E x).length ≤ 16) → r = some ((List.range 8).map E)) ∧ ((∃ i, k ≤ i ∧ i < k + n ∧ hdT (tsN X X.length) i < 8 ∧ 16 < (E (hdT (tsN X X.length) i)).length) → r = none) := by
  intro n
  induction n with
  | zero =>
    intro k rows C N r C' N' hk hl hr h
    simp only [anF, Option.some.injEq, Prod.mk.injEq] at h
    obtain ⟨rfl, -, -⟩ := h
    refine ⟨fun _ => congrArg some ?_, fun ⟨i, h1, h2, _⟩ => by omega⟩
    apply List.ext_getElem?
    intro x
    rcases Nat.lt_or_ge x 8 with hx | hx
    · rw [List.getElem?_map, List.getElem?_range hx]
      rcases hr x hx with z | ⟨-, i, h1, h2, -⟩
      · rw [List.getD_eq_getElem?_getD, List.getElem?_eq_getElem (by omega)] at z
        rw [List.getElem?_eq_getElem (by omega)]
        exact congrArg some z
      · omega
    · rw [List.getElem?_eq_none (by omega), List.getElem?_eq_none (by simpa using hx)]
  | succ n ih =>
    intro k rows C N r C' N' hk hl hr h
    unfold anF at h
    obtain ⟨p, hp, rfl⟩ := nuX_sur X (show k < (tsN X X.length).length by omega)
    have ehd := nuX_hd hX hp
    by_cases c : 10 ≤ hdT (tsN X X.length) (nuX X p)
    · rw [if_pos c] at h
      have z := ih (nuX X p + 1) rows C N r C' N' (by omega) hl (fun x hx => by
        rcases hr x hx with y | ⟨y, i, h1, h2, h3⟩
        · exact Or.inl y
        · rcases Nat.eq_or_lt_of_le h1 with q | q
          · rw [← q] at h3
            omega
          · exact Or.inr ⟨y, i, by omega, by omega, h3⟩) h
      refine ⟨z.1, fun ⟨i, h1, h2, h3, h4⟩ => z.2 ⟨i, ?_, by omega, h3, h4⟩⟩
      rcases Nat.eq_or_lt_of_le h1 with q | q
      · rw [← q] at h3
        omega
      · omega
    · rw [if_neg c] at h
      have g10 : gl X p < 10 := by omega
      have g8 := gl_8 hX hp g10
      have eE : exF E (sub' X p) = E (gl X p) := exF_nm hX E hp g10
      split at h
      · cases h
      · rename_i c1 m1 e1
        simp only [Option.some.injEq, Prod.mk.injEq] at h
        obtain ⟨rfl, -, -⟩ := h
        have w := wcF_rel hX HP H G A hE F p none c1 m1 hp e1
        rw [eE] at w
        refine ⟨fun z => ?_, fun _ => rfl⟩
        have := w.1 (z _ g8)
        cases this
      · rename_i x c1 m1 e1
        have w := wcF_rel hX HP H G A hE F p (some x) c1 m1 hp e1
        rw [eE] at w
        have hx16 : (E (gl X p)).length ≤ 16 := by
          rcases Nat.lt_or_ge 16 (E (gl X p)).length with z | z
          · have := w.2 z
            cases this
          · exact z
        have ex := Option.some.inj (w.1 hx16)
        subst ex
        rw [ehd] at h
        have gset : ∀ y, y < 8 → (rows.set (gl X p) (E (gl X p))).getD y [] = if gl X p = y then E (gl X p) else rows.getD y [] := fun y hy => by
          rw [List.getD_eq_getElem?_getD, List.getD_eq_getElem?_getD]
          by_cases e : gl X p = y
          · subst e
            rw [List.getElem?_set_self (by omega), if_pos rfl]
            rfl
          · rw [List.getElem?_set_ne e, if_neg e]
        have z := ih (nuX X p + 1) (rows.set (gl X p) (E (gl X p))) _ _ r C' N' (by omega) (by rw [List.length_set]; exact hl) (fun y hy => by
          rw [gset y hy]
          by_cases e : gl X p = y
          · rw [if_pos e, e]
            exact Or.inl rfl
          · rw [if_neg e]
            rcases hr y hy with w2 | ⟨w2, i, h1, h2, h3⟩
            · exact Or.inl w2
            · rcases Nat.eq_or_lt_of_le h1 with q | q
              · rw [← q, ehd] at h3
                exact absurd h3 e
              · exact Or.inr ⟨w2, i, by omega, by omega, h3⟩) h
        refine ⟨z.1, fun ⟨i, h1, h2, h3, h4⟩ => ?_⟩
        rcases Nat.eq_or_lt_of_le h1 with q | q
        · rw [← q, ehd] at h4
          omega
        · exact z.2 ⟨i, by omega, by omega, h3, h4⟩
end Uc20clsw
