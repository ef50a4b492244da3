/-! the class, strongly: two terms made alike by classes (printed by wip/p20/genT9.py) -/
theorem flF_ok (X : List Nat) (z : Nat) : ∀ u i : Nat, u + i = z → flF X z u i ≤ z ∧ sub' X (flF X z u i) = sub' X z ∧ ((∀ y, y < i → sub' X y ≠ sub' X z) → ∀ y, y < flF X z u i → sub' X y ≠ sub' X z) := by
  intro u
  induction u with
  | zero =>
    intro i h
    have e : i = z := by omega
    subst e
    exact ⟨Nat.le_refl _, rfl, fun g => g⟩
  | succ u ih =>
    intro i h
    by_cases c : sub' X i = sub' X z
    · have e : flF X z (u + 1) i = i := if_pos c
      rw [e]
      exact ⟨by omega, c, fun g => g⟩
    · have e : flF X z (u + 1) i = flF X z u (i + 1) := if_neg c
      rw [e]
      obtain ⟨a1, a2, a3⟩ := ih (i + 1) (by omega)
      refine ⟨a1, a2, fun g => a3 (fun y hy => ?_)⟩
      rcases Nat.lt_or_ge y i with c1 | c1
      · exact g y c1
      · rw [show y = i by omega]
        exact c
theorem flX_ok {X : List Nat} {z : Nat} (hz : z < X.length) : flX X z ≤ z ∧ sub' X (flX X z) = sub' X z ∧ ∀ y, y < flX X z → sub' X y ≠ sub' X z := by
  unfold flX
  rw [if_pos hz]
  obtain ⟨a1, a2, a3⟩ := flF_ok X z z 0 (Nat.add_zero _)
  exact ⟨a1, a2, a3 (fun y hy => absurd hy (Nat.not_lt_zero y))⟩
theorem flX_iff {X : List Nat} {y z : Nat} (hy : y < X.length) (hz : z < X.length) : flX X y = flX X z ↔ sub' X y = sub' X z := by
  obtain ⟨a1, a2, a3⟩ := flX_ok hy
  obtain ⟨b1, b2, b3⟩ := flX_ok hz
  constructor
  · intro e
    rw [← a2, e, b2]
  · intro e
    rcases Nat.lt_trichotomy (flX X y) (flX X z) with c | c | c
    · exact absurd (by rw [a2, e]) (b3 _ c)
    · exact c
    · exact absurd (by rw [b2, e]) (a3 _ c)
def hd0 (X : List Nat) (i : Nat) : Option Nat := if i < X.length ∧ 10 ≤ gl X i then some i else none
theorem IC0 {X : List Nat} {n1 : Nat} (hY : BY X n1) : IC X n1 (flX X) (hd0 X) [(0, n1)] := by
  have hX := hY.1
  have hX32 := hX.2.2
  have hn1 := hY.2.2.2.1
  have lt := fun {p : Nat} (hp : p < X.length) => Nat.lt_of_le_of_lt (flX_ok hp).1 hp
  have idm : ∀ p, p < X.length → flX X (flX X p) = flX X p := fun p hp => (flX_iff (lt hp) hp).mpr (flX_ok hp).2.1
  refine ⟨⟨fun i hi => ?_, fun p hp => ⟨lt hp, idm p hp⟩, fun p hp a ha => ?_, fun p hp hg hn => ?_⟩, fun p q hp hq e => (flX_iff hp hq).mpr e, fun p q hp hq e g1 g2 => ?_, fun k' hs hps => hps (0, n1) List.mem_cons_self, fun k' hG => ⟨fun p q hp hq e => hG.2.1 p q hp hq ((flX_iff hp hq).mp e), fun z hz => ?_⟩, fun z hz => ?_⟩
  · rcases Nat.lt_or_ge i X.length with c | c
    · have := lt c
      omega
    · unfold flX
      rw [if_neg (by omega)]
      exact hi
  · unfold hd0 at ha
    by_cases c : flX X p < X.length ∧ 10 ≤ gl X (flX X p)
    · rw [if_pos c] at ha
      cases ha
      exact ⟨c.1, c.2, idm p hp⟩
    · rw [if_neg c] at ha
      cases ha
  · unfold hd0 at hn
    rw [if_pos ⟨lt hp, by rw [(sub_kid hX (lt hp) hp (flX_ok hp).2.1).1]; exact hg⟩] at hn
    cases hn
  · obtain ⟨s1, s2⟩ := sub_kid hX hp hq ((flX_iff hp hq).mp e)
    refine ⟨s1, fun j hj k' hs _ => ?_⟩
    have k1 := (ko_mono hX hp hj).2.2.2.2
    have k2 := (ko_mono hX hq (by rw [← ga_eq s1]; exact hj)).2.2.2.2
    exact hs _ _ k1 k2 ((flX_iff k1 k2).mpr (s2 j hj))
  · rw [List.mem_singleton.mp hz]
    exact hG.1
  · rw [List.mem_singleton.mp hz]
    exact ⟨by show 0 < X.length; omega, hn1⟩
theorem fxK_le (n : Nat) (k : Nat → Nat) : fxK n k ≤ n := by
  have h := sJ_le (f := fun c => if k c = c then 1 else 0) (g := fun _ => 1) (n := n) (fun i _ => by split <;> omega)
  rw [sJ_1] at h
  exact h
theorem RW1.ex {h : AH} {R N : Nat} {xs : List Int32} (e : h R = some (107, xs.map Value.int)) (hl : xs.length = N) : ∃ f, RW1 h R N f := ⟨fun i => (xs[i]?).getD 0, xs, e, hl, fun i hi => by
  obtain ⟨y, hy⟩ : ∃ y, xs[i]? = some y := ⟨_, List.getElem?_eq_getElem (by omega)⟩
  show xs[i]? = some ((xs[i]?).getD 0)
  rw [hy]
  rfl⟩
theorem PRW.out {h : AH} {pb a1 a2 : Nat} (H : PRW h pb a1 a2) {a : Nat} (h0 : a ≠ pb) (h1 : a ≠ a1) (h2 : a ≠ a2) (c : AC) : PRW (hup h a c) pb a1 a2 := by
  obtain ⟨⟨w, w1, w2⟩, ⟨xs, x1, x2⟩, ys, y1, y2⟩ := H
  exact ⟨⟨w, w1, by rw [hup_ne _ _ (Ne.symm h0)]; exact w2⟩, ⟨xs, by rw [hup_ne _ _ (Ne.symm h1)]; exact x1, x2⟩, ys, by rw [hup_ne _ _ (Ne.symm h2)]; exact y1, y2⟩
/-- the classes' object, its pairs of any content -/
def CTW (B Q P : Nat → Nat) (h : AH) (F : Nat → TC) (X : List Nat) (f1 f2 f3 : Nat → Int32) : Prop :=
  TS B Q h F ∧ TN (F 51) X ∧ h (P 5) = some (3, [.ref (B 51), .ref (Q 61), .ref (Q 62), .ref (Q 63), .ref (P 14)]) ∧ RW1 h (Q 61) 32 f1 ∧ RW1 h (Q 62) 32 f2 ∧ RW1 h (Q 63) 8 f3 ∧ PRW h (P 14) (Q 66) (Q 67)
section CTw
variable {B Q P : Nat → Nat} {ox : Nat} {kn : Int32} {d r : Int32} {h h' : AH} {F F' : Nat → TC} {X : List Nat} {f1 f2 f3 : Nat → Int32} {ps qs : PL2}
theorem CTW.s1 (Y : LYO B Q) (T : CTW B Q P h F X f1 f2 f3) {row : List Int32} (hr : h (Q 61) = some (107, row.map Value.int)) {x : Nat} (hx : x < 32) (v : Int32) : CTW B Q P (hup h (Q 61) (107, (row.set x v).map Value.int)) F X (up1 f1 x v) f2 f3 := by
  obtain ⟨t1, t2, t3, t4, t5, t6, t7⟩ := T
  exact ⟨t1.outQ Y (by decide) (by decide) hr _, t2, by rw [hup_ne _ _ (k_ne t3 hr (by decide))]; exact t3, t4.set hr hx v, t5.out (Yne Y (by decide) (by decide) (by decide)) _, t6.out (Yne Y (by decide) (by decide) (by decide)) _, t7.out (k_ne hr t7.1.choose_spec.2 (by decide)) (Yne Y (by decide) (by decide) (by decide)) (Yne Y (by decide) (by decide) (by decide)) _⟩
theorem CTW.s2 (Y : LYO B Q) (T : CTW B Q P h F X f1 f2 f3) {row : List Int32} (hr : h (Q 62) = some (107, row.map Value.int)) {x : Nat} (hx : x < 32) (v : Int32) : CTW B Q P (hup h (Q 62) (107, (row.set x v).map Value.int)) F X f1 (up1 f2 x v) f3 := by
  obtain ⟨t1, t2, t3, t4, t5, t6, t7⟩ := T
  exact ⟨t1.outQ Y (by decide) (by decide) hr _, t2, by rw [hup_ne _ _ (k_ne t3 hr (by decide))]; exact t3, t4.out (Yne Y (by decide) (by decide) (by decide)) _, t5.set hr hx v, t6.out (Yne Y (by decide) (by decide) (by decide)) _, t7.out (k_ne hr t7.1.choose_spec.2 (by decide)) (Yne Y (by decide) (by decide) (by decide)) (Yne Y (by decide) (by decide) (by decide)) _⟩
theorem CTW.pr (Y : LYO B Q) (T : CTW B Q P h F X f1 f2 f3) (H : PRS h' (P 14) (Q 66) (Q 67) qs) (f : FrP (P 14) (Q 66) (Q 67) h h') : CTG B Q P h' F X f1 f2 f3 qs := by
  obtain ⟨t1, t2, t3, t4, t5, t6, t7⟩ := T
  have g3 := t7.1.choose_spec.2
  have kp : ∀ {j N : Nat} {g : Nat → Int32}, 60 ≤ j → j < 70 → j ≠ 66 → j ≠ 67 → RW1 h (Q j) N g → RW1 h' (Q j) N g := fun {j N g} h1 h2 n1 n2 ⟨row, r1, r2⟩ => ⟨row, by rw [f (Q j) (k_ne r1 g3 (by decide)) (Yne Y h2 (by decide) n1) (Yne Y h2 (by decide) n2)]; exact r1, r2⟩
  exact ⟨t1.frPw f t7 (hAq Y (by decide) (by decide) (by decide) (by decide)), t2, f.keep t7 t3 (by decide) (by decide), kp (by decide) (by decide) (by decide) (by decide) t4, kp (by decide) (by decide) (by decide) (by decide) t5, kp (by decide) (by decide) (by decide) (by decide) t6, H⟩
theorem SCR.lcl (R : SCR B Q P h) : ∀ a ∈ LCl P Q, ∃ k vs, h a = some (k, vs) ∧ okK k := fun a ha => by
  obtain ⟨-, r2, r3, r4, r5⟩ := R
  have row : ∀ j, 60 ≤ j → j < 70 → ∃ k vs, h (Q j) = some (k, vs) ∧ okK k := fun j h1 h2 => by
    obtain ⟨xs, x1, -⟩ := r5 j h1 h2
    exact ⟨_, _, x1, Or.inr (Or.inr rfl)⟩
  unfold LCl at ha
  simp only [List.mem_cons, List.not_mem_nil, or_false] at ha
  rcases ha with rfl | rfl | rfl | rfl | rfl | rfl
  · obtain ⟨w, w1, w2⟩ := r4 1 (by decide)
    exact ⟨_, _, w2, Or.inl rfl⟩
  · exact row 61 (by decide) (by decide)
  · exact row 62 (by decide) (by decide)
  · exact row 63 (by decide) (by decide)
  · exact row 66 (by decide) (by decide)
  · exact row 67 (by decide) (by decide)
theorem RW1.rows {h : AH} {R N : Nat} {f : Nat → Int32} (H : RW1 h R N f) : ∃ xs : List Int32, h R = some (107, xs.map Value.int) ∧ xs.length = N := by
  obtain ⟨xs, x1, x2, -⟩ := H
  exact ⟨xs, x1, x2⟩
/-- the class's cells after classes -/
theorem CLS.cl (Y : LYO B Q) (C : CLS B Q P ox kn h F d r) (T : CTG B Q P h' F' X f1 f2 f3 ps) (f : FrU B Q (LCl P Q) h h') : CLS B Q P ox kn h' F' d r := by
  obtain ⟨c1, c2, c3, c4⟩ := id C
  have hL := c4.lcl
  have hq : ∀ j, 60 ≤ j → j < 70 → j ≠ 61 → j ≠ 62 → j ≠ 63 → j ≠ 66 → j ≠ 67 → Q j ∉ LCl P Q := fun j h1 h2 n1 n2 n3 n4 n5 z => by
    obtain ⟨-, -, -, r4, r5⟩ := c4
    obtain ⟨xs, x1, -⟩ := r5 j h1 h2
    obtain ⟨w, -, w2⟩ := r4 1 (by decide)
    unfold LCl at z
    simp only [List.mem_cons, List.not_mem_nil, or_false] at z
    rcases z with z | z | z | z | z | z
    · exact k_ne x1 w2 (by decide) z
    · exact n1 (Y.2 _ _ h2 (by decide) z)
    · exact n2 (Y.2 _ _ h2 (by decide) z)
    · exact n3 (Y.2 _ _ h2 (by decide) z)
    · exact n4 (Y.2 _ _ h2 (by decide) z)
    · exact n5 (Y.2 _ _ h2 (by decide) z)
  have hp : ∀ k, k < 3 → k ≠ 1 → P (13 + k) ∉ LCl P Q := fun k hk n0 z => by
    have hne := c4.pne Y hk (j := 1) (by decide) n0
    obtain ⟨-, -, -, r4, r5⟩ := c4
    obtain ⟨w, -, w2⟩ := r4 k hk
    have row : ∀ j, 60 ≤ j → j < 70 → P (13 + k) ≠ Q j := fun j h1 h2 => by
      obtain ⟨xs, x1, -⟩ := r5 j h1 h2
      exact k_ne w2 x1 (by decide)
    unfold LCl at z
    simp only [List.mem_cons, List.not_mem_nil, or_false] at z
    rcases z with z | z | z | z | z | z
    · exact hne z
    · exact row 61 (by decide) (by decide) z
    · exact row 62 (by decide) (by decide) z
    · exact row 63 (by decide) (by decide) z
    · exact row 66 (by decide) (by decide) z
    · exact row 67 (by decide) (by decide) z
  have hp4 : P 4 ∉ LCl P Q := fun z => by
    obtain ⟨⟨t, e, r1⟩, -, -, r4, r5⟩ := c4
    have row : ∀ j, 60 ≤ j → j < 70 → P 4 ≠ Q j := fun j h1 h2 => by
      obtain ⟨xs, x1, -⟩ := r5 j h1 h2
      exact k_ne r1 x1 (by decide)
    obtain ⟨w, -, w2⟩ := r4 1 (by decide)
    unfold LCl at z
    simp only [List.mem_cons, List.not_mem_nil, or_false] at z
    rcases z with z | z | z | z | z | z
    · exact k_ne r1 w2 (by decide) z
    · exact row 61 (by decide) (by decide) z
    · exact row 62 (by decide) (by decide) z
    · exact row 63 (by decide) (by decide) z
    · exact row 66 (by decide) (by decide) z
    · exact row 67 (by decide) (by decide) z
  obtain ⟨t1, t2, t3, t4, t5, t6, t7⟩ := T
  refine ⟨t1, f.keep c1 hL c2 (by decide) (by unfold okK; decide), c3.keepU f c1 hL, ?_, t3, f.keep c1 hL c4.2.2.1 (by decide) (by unfold okK; decide), fun k hk => ?_, fun j h1 h2 => ?_⟩
  · obtain ⟨⟨t, e, r1⟩, -⟩ := c4
    refine ⟨t, e, ?_⟩
    rw [f _ (fun i hi => ?_) hp4]
    · exact r1
    · obtain ⟨-, b1, xs, b2, -⟩ := c1 i hi
      exact ⟨k_ne r1 b1 (by decide), k_ne r1 b2 (by decide)⟩
  · by_cases e : k = 1
    · subst e
      exact ⟨_, t7.1, t7.2.2.1⟩
    · exact c4.prU c1 f hk (hp k hk e)
  · by_cases e1 : j = 61
    · subst e1
      exact t4.rows
    · by_cases e2 : j = 62
      · subst e2
        exact t5.rows
      · by_cases e3 : j = 63
        · subst e3
          exact t6.rows
        · by_cases e4 : j = 66
          · subst e4
            obtain ⟨-, -, -, ⟨xs, x1, x2, -⟩, -⟩ := t7
            exact ⟨xs, x1, x2⟩
          · by_cases e5 : j = 67
            · subst e5
              obtain ⟨-, -, -, -, ys, y1, y2, -⟩ := t7
              exact ⟨ys, y1, y2⟩
            · exact c4.rowU Y c1 f h1 h2 (hq j h1 h2 e1 e2 e3 e4 e5)
end CTw
section S23
variable {la : Launch} {D : va_G} {cA : Nat → ClassId} {B0 pa : Nat} {B Q P : Nat → Nat} {ox : Nat} {kn : Int32} {F : Nat → TC} {d r : Int32}
/-- two terms made alike by classes -/
def mcP (B Q P : Nat → Nat) (ox : Nat) (kn : Int32) (F : Nat → TC) (d r : Int32) (X : List Nat) (n1 : Nat) (h : AH) (v : Option Value) (h' : AH) : Prop :=
  ∃ b : Bool, v = some (.int (bI b)) ∧ (b = true ↔ ∃ k, MnK X n1 k ∧ AcK X k) ∧ FrC h h' ∧ ∃ F' : Nat → TC, CLS B Q P ox kn h' F' d r ∧ (∀ i, i ≠ 51 → F' i = F i) ∧ (b = true → ∃ (k : Nat → Nat) (hd : Nat → Option Nat) (f3 : Nat → Int32) (ps : PL2), CTG B Q P h' F' X (nK k) (pK hd) f3 ps ∧ HDP X k hd ∧ GdK X n1 k ∧ AcK X k ∧ MnK X n1 k)
set_option maxHeartbeats 64000000 in
theorem s1_makeAlike (h : AH) (Y : LYO B Q) (C : CLS B Q P ox kn h F d r) {i1 i2 : Nat} (h1i : i1 < 52) (h1n : i1 ≠ 51) (h2i : i2 < 52) (h2n : i2 ≠ 51) {one other : List Nat} (N1 : TN (F i1) one) (N2 : TN (F i2) other) (t1 : TW one ∧ one.length ≤ 16) (t2 : TW other ∧ other.length ≤ 16) : CT la D cA B0 pa yX1_makeAlike cX1_makeAlike 8 (some .boolean) (rmD 6 0 0) [.ref (P 5), .ref (B i1), .ref (B i2)] h (mcP B Q P ox kn F d r (one ++ other) one.length h) := by
  refine CT_of (by decide +kernel) (Nat.le_of_ble_eq_true rfl) ?_
  intro p e s m args below meth c X E hr hlk hnm
  have dk : ∀ {pc : Nat} {q : Instr × Nat}, lkd DX1_makeAlike pc = some q → decode cX1_makeAlike pc = .ok q := lkd_ok DX1_makeAlike_ok
  obtain ⟨bY, ey1, ey2⟩ := BY_of t1 t2
  have hX := bY.1
  have hX32 := hX.2.2
  have hn1 := bY.2.2.2.1
  have hrm : rmI 51 = 32 := rfl
  have hl1 := N1.len
  have hl2 := N2.len
  have hL := C.2.2.2.lcl
  have NX : TN ((upF F 51 ((F i1).1 ++ (F i2).1, (F i1).2 || (F i2).2)) 51) (one ++ other) := by
    rw [upF_self]
    refine ⟨?_, fun x hx => (List.mem_append.mp hx).elim (N1.2 x) (N2.2 x)⟩
    show (F i1).1 ++ (F i2).1 = (one ++ other).map nI
    rw [N1.1, N2.1, List.map_append]
  have fin : ∀ (b : Bool) (h1 : AH) (k : Nat → Nat) (hd : Nat → Option Nat) (g : Nat → Int32) (ps : PL2), (b = true ↔ ∃ k, MnK (one ++ other) one.length k ∧ AcK (one ++ other) k) → CTG B Q P h1 (upF F 51 ((F i1).1 ++ (F i2).1, (F i1).2 || (F i2).2)) (one ++ other) (nK k) (pK hd) g ps → FrU B Q (LCl P Q) h h1 → (b = true → HDP (one ++ other) k hd ∧ GdK (one ++ other) one.length k ∧ AcK (one ++ other) k ∧ MnK (one ++ other) one.length k) → mcP B Q P ox kn F d r (one ++ other) one.length h (some (.int (bI b))) h1 := fun b h1 k hd g ps e1 T1 f1 e2 => ⟨b, rfl, e1, f1.frC C.1 hL, _, C.cl Y T1 f1, fun i hi => upF_ne _ _ hi, fun z => ⟨k, hd, g, ps, T1, e2 z⟩⟩
  have loop : ∀ (n j : Nat) (k : Nat → Nat) (hd : Nat → Option Nat) (g : Nat → Int32) (sk : PL2) (h1 : AH), sk.length + 3 * fxK (one ++ other).length k ≤ n → j + n ≤ 97 → IC (one ++ other) one.length k hd sk → CTG B Q P h1 (upF F 51 ((F i1).1 ++ (F i2).1, (F i1).2 || (F i2).2)) (one ++ other) (nK k) (pK hd) g sk.reverse → FrU B Q (LCl P Q) h h1 → ∀ l : List (Nat × Value), lsel l [4, 3, 0] = [(4, vI j), (3, .int (bI true)), (0, .ref (P 5))] → WR p la e (rmD 6 0 0) s m args below meth c D cA B0 8 (mcP B Q P ox kn F d r (one ++ other) one.length h) 86 l [] h1 0 0 := by
    intro n
    induction n with
    | zero =>
      intro j k hd g sk h1 hn hj I T1 f1 l hl
      cases sk with
      | nil =>
        obtain ⟨t1, t2, t3, t4, t5, t6, t7⟩ := id T1
        have mn := I.mn
        have HD := I.1
        refine WS.sel [4, 3, 0] hl ?_
        refine fst1_ok X (dk rfl) rfl ?_
        refine ldc_ok X csX1_63 (dk rfl) ?_
        refine br_ok X (dk rfl) rfl (show ((90 : Nat) : Int) + 95 = ((185 : Nat) : Int) from rfl) (fun q => absurd q (by rw [show (1000000 : Int32) = nI 1000000 by decide +kernel]; exact nI_ge (by omega) (by omega))) (fun _ => ?_)
        refine fst1_ok X (dk rfl) rfl ?_
        refine br_ok X (dk rfl) rfl (show ((94 : Nat) : Int) + 91 = ((185 : Nat) : Int) from rfl) (fun q => absurd q bI_t) (fun _ => ?_)
        refine fst1_ok X (dk rfl) rfl ?_
        refine getf_ok X flX1_33 (dk rfl) t3 rfl ?_
        refine callVR_ok (ci := 4) (T := TX2) (N := 3) (av := []) (r := []) X E (s2_length h1 t7) lkX2_length mlX1_64 lmX2_length lpX2_length ⟨Nat.le_of_ble_eq_true rfl, Nat.le_of_ble_eq_true rfl⟩ ⟨Nat.le_of_ble_eq_true rfl, Nat.le_of_ble_eq_true rfl⟩ rfl ⟨_, t7.2.2.1⟩ (Nat.le_of_ble_eq_true rfl) (dk rfl) ?_
        rintro _ rfl
        refine br_ok X (dk rfl) rfl (show ((104 : Nat) : Int) + 81 = ((185 : Nat) : Int) from rfl) (fun _ => ?_) (fun q => absurd (by decide) q)
        refine fst1_ok X (dk rfl) rfl ?_
        refine br_ok X (dk rfl) rfl (show ((186 : Nat) : Int) + 14 = ((200 : Nat) : Int) from rfl) (fun q => absurd q bI_t) (fun _ => ?_)
        refine fst1_ok X (dk rfl) rfl ?_
        refine callVR_ok (ci := 3) (T := TX1) (N := 5) (av := []) (r := []) X E (s1_isNoneInItself h1 T1 bY HD mn.1) lkX1_isNoneInItself mlX1_81 lmX1_isNoneInItself lpX1_isNoneInItself ⟨Nat.le_of_ble_eq_true rfl, Nat.le_of_ble_eq_true rfl⟩ ⟨Nat.le_of_ble_eq_true rfl, Nat.le_of_ble_eq_true rfl⟩ rfl ⟨_, t3⟩ (Nat.le_of_ble_eq_true rfl) (dk rfl) ?_
        rintro _ ⟨b, rfl, hb⟩
        have iff1 : b = true ↔ ∃ k, MnK (one ++ other) one.length k ∧ AcK (one ++ other) k := ⟨fun z => ⟨k, mn, hb.mp z⟩, fun ⟨k2, m2, a2⟩ => hb.mpr (AcK.of m2 mn a2)⟩
        cases b with
        | true =>
          refine br_ok X (dk rfl) rfl (show ((193 : Nat) : Int) + 7 = ((200 : Nat) : Int) from rfl) (fun q => absurd q bI_t) (fun _ => ?_)
          refine fst1_ok X (dk rfl) rfl ?_
          refine br_ok X (dk rfl) rfl (show ((197 : Nat) : Int) + 4 = ((201 : Nat) : Int) from rfl) (fun _ => ?_) (fun q => absurd trivial q)
          exact reti_ok X hr hlk (bI_n true) (dk rfl) (fin true h1 k hd g _ iff1 T1 f1 (fun _ => ⟨HD, mn.1, hb.mp rfl, mn⟩)) (Nat.le_of_ble_eq_true rfl) (Nat.le_of_ble_eq_true rfl)
        | false =>
          refine br_ok X (dk rfl) rfl (show ((193 : Nat) : Int) + 7 = ((200 : Nat) : Int) from rfl) (fun _ => ?_) (fun q => absurd bI_f' q)
          refine fst1_ok X (dk rfl) rfl ?_
          exact reti_ok X hr hlk (bI_n false) (dk rfl) (fin false h1 k hd g _ iff1 T1 f1 (fun z => (by cases z))) (Nat.le_of_ble_eq_true rfl) (Nat.le_of_ble_eq_true rfl)
      | cons z sk =>
        rw [List.length_cons] at hn
        omega
    | succ n ih =>
      intro j k hd g sk h1 hn hj I T1 f1 l hl
      cases sk with
      | nil =>
        obtain ⟨t1, t2, t3, t4, t5, t6, t7⟩ := id T1
        have mn := I.mn
        have HD := I.1
        refine WS.sel [4, 3, 0] hl ?_
        refine fst1_ok X (dk rfl) rfl ?_
        refine ldc_ok X csX1_63 (dk rfl) ?_
        refine br_ok X (dk rfl) rfl (show ((90 : Nat) : Int) + 95 = ((185 : Nat) : Int) from rfl) (fun q => absurd q (by rw [show (1000000 : Int32) = nI 1000000 by decide +kernel]; exact nI_ge (by omega) (by omega))) (fun _ => ?_)
        refine fst1_ok X (dk rfl) rfl ?_
        refine br_ok X (dk rfl) rfl (show ((94 : Nat) : Int) + 91 = ((185 : Nat) : Int) from rfl) (fun q => absurd q bI_t) (fun _ => ?_)
        refine fst1_ok X (dk rfl) rfl ?_
        refine getf_ok X flX1_33 (dk rfl) t3 rfl ?_
        refine callVR_ok (ci := 4) (T := TX2) (N := 3) (av := []) (r := []) X E (s2_length h1 t7) lkX2_length mlX1_64 lmX2_length lpX2_length ⟨Nat.le_of_ble_eq_true rfl, Nat.le_of_ble_eq_true rfl⟩ ⟨Nat.le_of_ble_eq_true rfl, Nat.le_of_ble_eq_true rfl⟩ rfl ⟨_, t7.2.2.1⟩ (Nat.le_of_ble_eq_true rfl) (dk rfl) ?_
        rintro _ rfl
        refine br_ok X (dk rfl) rfl (show ((104 : Nat) : Int) + 81 = ((185 : Nat) : Int) from rfl) (fun _ => ?_) (fun q => absurd (by decide) q)
        refine fst1_ok X (dk rfl) rfl ?_
        refine br_ok X (dk rfl) rfl (show ((186 : Nat) : Int) + 14 = ((200 : Nat) : Int) from rfl) (fun q => absurd q bI_t) (fun _ => ?_)
        refine fst1_ok X (dk rfl) rfl ?_
        refine callVR_ok (ci := 3) (T := TX1) (N := 5) (av := []) (r := []) X E (s1_isNoneInItself h1 T1 bY HD mn.1) lkX1_isNoneInItself mlX1_81 lmX1_isNoneInItself lpX1_isNoneInItself ⟨Nat.le_of_ble_eq_true rfl, Nat.le_of_ble_eq_true rfl⟩ ⟨Nat.le_of_ble_eq_true rfl, Nat.le_of_ble_eq_true rfl⟩ rfl ⟨_, t3⟩ (Nat.le_of_ble_eq_true rfl) (dk rfl) ?_
        rintro _ ⟨b, rfl, hb⟩
        have iff1 : b = true ↔ ∃ k, MnK (one ++ other) one.length k ∧ AcK (one ++ other) k := ⟨fun z => ⟨k, mn, hb.mp z⟩, fun ⟨k2, m2, a2⟩ => hb.mpr (AcK.of m2 mn a2)⟩
        cases b with
        | true =>
          refine br_ok X (dk rfl) rfl (show ((193 : Nat) : Int) + 7 = ((200 : Nat) : Int) from rfl) (fun q => absurd q bI_t) (fun _ => ?_)
          refine fst1_ok X (dk rfl) rfl ?_
          refine br_ok X (dk rfl) rfl (show ((197 : Nat) : Int) + 4 = ((201 : Nat) : Int) from rfl) (fun _ => ?_) (fun q => absurd trivial q)
          exact reti_ok X hr hlk (bI_n true) (dk rfl) (fin true h1 k hd g _ iff1 T1 f1 (fun _ => ⟨HD, mn.1, hb.mp rfl, mn⟩)) (Nat.le_of_ble_eq_true rfl) (Nat.le_of_ble_eq_true rfl)
        | false =>
          refine br_ok X (dk rfl) rfl (show ((193 : Nat) : Int) + 7 = ((200 : Nat) : Int) from rfl) (fun _ => ?_) (fun q => absurd bI_f' q)
          refine fst1_ok X (dk rfl) rfl ?_
          exact reti_ok X hr hlk (bI_n false) (dk rfl) (fin false h1 k hd g _ iff1 T1 f1 (fun z => (by cases z))) (Nat.le_of_ble_eq_true rfl) (Nat.le_of_ble_eq_true rfl)
      | cons z sk =>
        obtain ⟨u1, u2⟩ := z
        obtain ⟨hu1, hu2⟩ := I.2.2.2.2.2 (u1, u2) List.mem_cons_self
        have hu1 : u1 < (one ++ other).length := hu1
        have hu2 : u2 < (one ++ other).length := hu2
        rw [List.reverse_cons] at T1
        rw [List.length_cons] at hn
        obtain ⟨t1, t2, t3, t4, t5, t6, t7⟩ := id T1
        have HD := I.1
        have hk1 : k u1 < 32 := HD.1 u1 (by omega)
        have hk2 : k u2 < 32 := HD.1 u2 (by omega)
        have elen : (sk.reverse ++ [(u1, u2)]).length = sk.length + 1 := by rw [List.length_append, List.length_reverse, List.length_singleton]
        have eget : (sk.reverse ++ [(u1, u2)])[sk.length]? = some (u1, u2) := by
          rw [List.getElem?_append_right (by rw [List.length_reverse]; exact Nat.le_refl _), List.length_reverse, Nat.sub_self]
          rfl
        have fj : Value.int (nI j + Int32.ofInt 1) = vI (j + 1) := congrArg Value.int (by rw [nI_1', nI_add])
        refine WS.sel [4, 3, 0] hl ?_
        refine fst1_ok X (dk rfl) rfl ?_
        refine ldc_ok X csX1_63 (dk rfl) ?_
        refine br_ok X (dk rfl) rfl (show ((90 : Nat) : Int) + 95 = ((185 : Nat) : Int) from rfl) (fun q => absurd q (by rw [show (1000000 : Int32) = nI 1000000 by decide +kernel]; exact nI_ge (by omega) (by omega))) (fun _ => ?_)
        refine fst1_ok X (dk rfl) rfl ?_
        refine br_ok X (dk rfl) rfl (show ((94 : Nat) : Int) + 91 = ((185 : Nat) : Int) from rfl) (fun q => absurd q bI_t) (fun _ => ?_)
        refine fst1_ok X (dk rfl) rfl ?_
        refine getf_ok X flX1_33 (dk rfl) t3 rfl ?_
        refine callVR_ok (ci := 4) (T := TX2) (N := 3) (av := []) (r := []) X E (s2_length h1 t7) lkX2_length mlX1_64 lmX2_length lpX2_length ⟨Nat.le_of_ble_eq_true rfl, Nat.le_of_ble_eq_true rfl⟩ ⟨Nat.le_of_ble_eq_true rfl, Nat.le_of_ble_eq_true rfl⟩ rfl ⟨_, t7.2.2.1⟩ (Nat.le_of_ble_eq_true rfl) (dk rfl) ?_
        rintro _ rfl
        rw [elen]
        refine br_ok X (dk rfl) rfl (show ((104 : Nat) : Int) + 81 = ((185 : Nat) : Int) from rfl) (fun q => absurd q (nI_nle (Nat.succ_pos _) (by omega))) (fun _ => ?_)
        refine fst1_ok X (dk rfl) rfl ?_
        refine getf_ok X flX1_33 (dk rfl) t3 rfl ?_
        refine callVR_ok (ci := 4) (T := TX2) (N := 3) (av := []) (r := []) X E (s2_length h1 t7) lkX2_length mlX1_64 lmX2_length lpX2_length ⟨Nat.le_of_ble_eq_true rfl, Nat.le_of_ble_eq_true rfl⟩ ⟨Nat.le_of_ble_eq_true rfl, Nat.le_of_ble_eq_true rfl⟩ rfl ⟨_, t7.2.2.1⟩ (Nat.le_of_ble_eq_true rfl) (dk rfl) ?_
        rintro _ rfl
        rw [elen]
        iterate 5 refine fst1_ok X (dk rfl) rfl ?_
        rw [nI_1', nI_sub (by omega), Nat.add_sub_cancel]
        refine getf_ok X flX1_33 (dk rfl) t3 rfl ?_
        refine fst1_ok X (dk rfl) rfl ?_
        refine callVR_ok (ci := 4) (T := TX2) (N := 3) (av := [vI sk.length]) (r := [.ref (P 5)]) X E (s2_oneAt h1 t7 eget) lkX2_oneAt mlX1_65 lmX2_oneAt lpX2_oneAt ⟨Nat.le_of_ble_eq_true rfl, Nat.le_of_ble_eq_true rfl⟩ ⟨Nat.le_of_ble_eq_true rfl, Nat.le_of_ble_eq_true rfl⟩ rfl ⟨_, t7.2.2.1⟩ (Nat.le_of_ble_eq_true rfl) (dk rfl) ?_
        rintro _ rfl
        refine callVR_ok (ci := 3) (T := TX1) (N := 5) (av := [vI u1]) (r := []) X E (s1_classAt h1 T1 (z := u1) (by omega)) lkX1_classAt mlX1_68 lmX1_classAt lpX1_classAt ⟨Nat.le_of_ble_eq_true rfl, Nat.le_of_ble_eq_true rfl⟩ ⟨Nat.le_of_ble_eq_true rfl, Nat.le_of_ble_eq_true rfl⟩ rfl ⟨_, t3⟩ (Nat.le_of_ble_eq_true rfl) (dk rfl) ?_
        rintro _ rfl
        iterate 3 refine fst1_ok X (dk rfl) rfl ?_
        refine getf_ok X flX1_33 (dk rfl) t3 rfl ?_
        refine fst1_ok X (dk rfl) rfl ?_
        refine callVR_ok (ci := 4) (T := TX2) (N := 3) (av := [vI sk.length]) (r := [.ref (P 5)]) X E (s2_otherAt h1 t7 eget) lkX2_otherAt mlX1_71 lmX2_otherAt lpX2_otherAt ⟨Nat.le_of_ble_eq_true rfl, Nat.le_of_ble_eq_true rfl⟩ ⟨Nat.le_of_ble_eq_true rfl, Nat.le_of_ble_eq_true rfl⟩ rfl ⟨_, t7.2.2.1⟩ (Nat.le_of_ble_eq_true rfl) (dk rfl) ?_
        rintro _ rfl
        refine callVR_ok (ci := 3) (T := TX1) (N := 5) (av := [vI u2]) (r := []) X E (s1_classAt h1 T1 (z := u2) (by omega)) lkX1_classAt mlX1_68 lmX1_classAt lpX1_classAt ⟨Nat.le_of_ble_eq_true rfl, Nat.le_of_ble_eq_true rfl⟩ ⟨Nat.le_of_ble_eq_true rfl, Nat.le_of_ble_eq_true rfl⟩ rfl ⟨_, t3⟩ (Nat.le_of_ble_eq_true rfl) (dk rfl) ?_
        rintro _ rfl
        rw [show nK k u1 = nI (k u1) from rfl, show nK k u2 = nI (k u2) from rfl]
        iterate 2 refine fst1_ok X (dk rfl) rfl ?_
        refine getf_ok X flX1_33 (dk rfl) t3 rfl ?_
        refine callV_ok (ci := 4) (T := TX2) (N := 3) (av := []) (r := []) X E (s2_dropNext h1 t7) lkX2_dropNext mlX1_74 lmX2_dropNext lpX2_dropNext ⟨Nat.le_of_ble_eq_true rfl, Nat.le_of_ble_eq_true rfl⟩ ⟨Nat.le_of_ble_eq_true rfl, Nat.le_of_ble_eq_true rfl⟩ rfl t7.2.2.1 (Nat.le_of_ble_eq_true rfl) (dk rfl) ?_
        rintro _ h2 ⟨rfl, H2, g2⟩
        have T2 := T1.pr Y H2 g2
        have f2 := f1.trans (g2.u (LCl_p P Q))
        obtain ⟨-, -, s3, -, -, -, s7⟩ := id T2
        iterate 2 refine fst1_ok X (dk rfl) rfl ?_
        by_cases ee : k u1 = k u2
        · refine br_ok X (dk rfl) rfl (show ((159 : Nat) : Int) + 14 = ((173 : Nat) : Int) from rfl) (fun _ => ?_) (fun q => absurd (by rw [ee]) q)
          refine fst1_ok X (dk rfl) rfl ?_
          refine br_ok X (dk rfl) rfl (show ((174 : Nat) : Int) + 4 = ((178 : Nat) : Int) from rfl) (fun _ => ?_) (fun q => absurd trivial q)
          have I2 := I.skip (z := (u1, u2)) ee
          iterate 2 refine fst1_ok X (dk rfl) rfl ?_
          refine br_ok X (dk rfl) rfl (show ((182 : Nat) : Int) + (-96) = ((86 : Nat) : Int) from rfl) (fun _ => ?_) (fun q => absurd trivial q)
          refine WS.sel (l' := [(4, vI (j + 1)), (3, .int (bI true)), (0, .ref (P 5))]) [4, 3, 0] (by rw [← fj]; rfl) ?_
          exact ih (j + 1) k hd g _ h2 (by omega) (by omega) I2 T2 f2 _ rfl
        · refine br_ok X (dk rfl) rfl (show ((159 : Nat) : Int) + 14 = ((173 : Nat) : Int) from rfl) (fun q => absurd (nI_inj (by omega) (by omega) q) ee) (fun _ => ?_)
          iterate 3 refine fst1_ok X (dk rfl) rfl ?_
          refine callV_ok (ci := 3) (T := TX1) (N := 5) (av := [vI (k u1), vI (k u2)]) (r := []) X E (s1_join h2 Y T2 hX (zl := k u1) (zr := k u2) hk1 hk2 HD.1 (fun a ea => (HD.2.2.1 u1 hu1 a ea).1) (fun a ea => (HD.2.2.1 u2 hu2 a ea).1) (by rw [List.length_reverse]; omega)) lkX1_join mlX1_77 lmX1_join lpX1_join ⟨Nat.le_of_ble_eq_true rfl, Nat.le_of_ble_eq_true rfl⟩ ⟨Nat.le_of_ble_eq_true rfl, Nat.le_of_ble_eq_true rfl⟩ rfl s3 (Nat.le_of_ble_eq_true rfl) (dk rfl) ?_
          rintro _ h3 (⟨a, b, ea, eb, hg, rfl, rfl⟩ | ⟨rfl, hgg, T3, g3⟩)
          · refine br_ok X (dk rfl) rfl (show ((170 : Nat) : Int) + 7 = ((177 : Nat) : Int) from rfl) (fun _ => ?_) (fun q => absurd bI_f' q)
            have hno := I.no (z := (u1, u2)) ea eb hg
            iterate 3 refine fst1_ok X (dk rfl) rfl ?_
            refine br_ok X (dk rfl) rfl (show ((182 : Nat) : Int) + (-96) = ((86 : Nat) : Int) from rfl) (fun _ => ?_) (fun q => absurd trivial q)
            refine fst1_ok X (dk rfl) rfl ?_
            refine ldc_ok X csX1_63 (dk rfl) ?_
            refine br_ok X (dk rfl) rfl (show ((90 : Nat) : Int) + 95 = ((185 : Nat) : Int) from rfl) (fun q => absurd q (by rw [show (1000000 : Int32) = nI 1000000 by decide +kernel, nI_1', nI_add]; exact nI_ge (by omega) (by omega))) (fun _ => ?_)
            refine fst1_ok X (dk rfl) rfl ?_
            refine br_ok X (dk rfl) rfl (show ((94 : Nat) : Int) + 91 = ((185 : Nat) : Int) from rfl) (fun _ => ?_) (fun q => absurd bI_f' q)
            refine fst1_ok X (dk rfl) rfl ?_
            refine br_ok X (dk rfl) rfl (show ((186 : Nat) : Int) + 14 = ((200 : Nat) : Int) from rfl) (fun _ => ?_) (fun q => absurd bI_f' q)
            refine fst1_ok X (dk rfl) rfl ?_
            exact reti_ok X hr hlk (bI_n false) (dk rfl) (fin false h3 k hd g _ ⟨fun z => (by cases z), fun ⟨k2, m2, _⟩ => absurd ⟨k2, m2.1⟩ hno⟩ T2 f2 (fun z => (by cases z))) (Nat.le_of_ble_eq_true rfl) (Nat.le_of_ble_eq_true rfl)
          · obtain ⟨I3, m3, m4⟩ := I.mrg hX (z := (u1, u2)) ee hgg
            have m3 : fxK (one ++ other).length (mgK k (k u1) (k u2)) + 1 ≤ fxK (one ++ other).length k := m3
            have m4 : (nwM (one ++ other) hd (k u1) (k u2)).length ≤ 3 := m4
            have f3 := f2.trans g3
            have T4 : CTG B Q P h3 (upF F 51 ((F i1).1 ++ (F i2).1, (F i1).2 || (F i2).2)) (one ++ other) (nK (mgK k (k u1) (k u2))) (pK (hdM k hd (k u1) (k u2))) g (nwM (one ++ other) hd (k u1) (k u2) ++ sk).reverse := by
              refine Eq.mp (congrArg (CTG B Q P h3 (upF F 51 ((F i1).1 ++ (F i2).1, (F i1).2 || (F i2).2)) (one ++ other) (nK (mgK k (k u1) (k u2))) (pK (hdM k hd (k u1) (k u2))) g) ?_) T3
              rw [List.reverse_append]
              congr 1
              unfold nwM
              generalize hd (k u1) = oa
              generalize hd (k u2) = ob
              cases oa <;> cases ob <;> rfl
            refine br_ok X (dk rfl) rfl (show ((170 : Nat) : Int) + 7 = ((177 : Nat) : Int) from rfl) (fun q => absurd q bI_t) (fun _ => ?_)
            refine fst1_ok X (dk rfl) rfl ?_
            refine br_ok X (dk rfl) rfl (show ((174 : Nat) : Int) + 4 = ((178 : Nat) : Int) from rfl) (fun _ => ?_) (fun q => absurd trivial q)
            iterate 2 refine fst1_ok X (dk rfl) rfl ?_
            refine br_ok X (dk rfl) rfl (show ((182 : Nat) : Int) + (-96) = ((86 : Nat) : Int) from rfl) (fun _ => ?_) (fun q => absurd trivial q)
            refine WS.sel (l' := [(4, vI (j + 1)), (3, .int (bI true)), (0, .ref (P 5))]) [4, 3, 0] (by rw [← fj]; rfl) ?_
            exact ih (j + 1) (mgK k (k u1) (k u2)) (hdM k hd (k u1) (k u2)) g _ h3 (by rw [List.length_append]; omega) (by omega) I3 T4 f3 _ rfl
  have fill : ∀ (u i : Nat) (g1 g2 g3 : Nat → Int32) (h1 : AH), u + i = 32 → CTW B Q P h1 (upF F 51 ((F i1).1 ++ (F i2).1, (F i1).2 || (F i2).2)) (one ++ other) g1 g2 g3 → (∀ y, y < i → g1 y = nK (flX (one ++ other)) y ∧ g2 y = pK (hd0 (one ++ other)) y) → FrU B Q (LCl P Q) h h1 → ∀ l : List (Nat × Value), lsel l [3, 1, 0] = [(3, vI i), (1, .ref (B i1)), (0, .ref (P 5))] → WR p la e (rmD 6 0 0) s m args below meth c D cA B0 8 (mcP B Q P ox kn F d r (one ++ other) one.length h) 11 l [] h1 0 0 := by
    intro u
    induction u with
    | zero =>
      intro i g1 g2 g3 h1 hi T1 hg f1 l hl
      have hi32 : i = 32 := by omega
      subst hi32
      obtain ⟨t1, t2, t3, t4, t5, t6, t7⟩ := id T1
      refine WS.sel [3, 1, 0] hl ?_
      iterate 2 refine fst1_ok X (dk rfl) rfl ?_
      refine br_ok X (dk rfl) rfl (show ((14 : Nat) : Int) + 48 = ((62 : Nat) : Int) from rfl) (fun _ => ?_) (fun q => absurd (by rw [nI_32']; exact Int32.le_refl _) q)
      refine fst1_ok X (dk rfl) rfl ?_
      refine getf_ok X flX1_33 (dk rfl) t3 rfl ?_
      refine callV_ok (ci := 4) (T := TX2) (N := 3) (av := []) (r := []) X E (s2_empty h1 t7) lkX2_empty mlX1_52 lmX2_empty lpX2_empty ⟨Nat.le_of_ble_eq_true rfl, Nat.le_of_ble_eq_true rfl⟩ ⟨Nat.le_of_ble_eq_true rfl, Nat.le_of_ble_eq_true rfl⟩ rfl t7.1.choose_spec.2 (Nat.le_of_ble_eq_true rfl) (dk rfl) ?_
      rintro _ h2 ⟨rfl, H2, f2⟩
      have T2 := T1.pr Y H2 f2
      obtain ⟨s1, s2, s3, s4, s5, s6, s7⟩ := id T2
      refine fst1_ok X (dk rfl) rfl ?_
      refine getf_ok X flX1_33 (dk rfl) s3 rfl ?_
      iterate 2 refine fst1_ok X (dk rfl) rfl ?_
      refine callVR_ok (ci := 7) (T := TX5) (N := 3) (av := []) (r := [vI 0, .ref (P 14)]) X E (s5_length h2 s1 h1i) lkX5_length mlX1_55 lmX5_length lpX5_length ⟨Nat.le_of_ble_eq_true rfl, Nat.le_of_ble_eq_true rfl⟩ ⟨Nat.le_of_ble_eq_true rfl, Nat.le_of_ble_eq_true rfl⟩ rfl ⟨_, (s1 i1 h1i).2.1⟩ (Nat.le_of_ble_eq_true rfl) (dk rfl) ?_
      rintro _ rfl
      rw [upF_ne _ _ h1n, hl1]
      refine callV_ok (ci := 4) (T := TX2) (N := 3) (av := [vI 0, vI one.length]) (r := []) X E (s2_add h2 H2 (Yne Y (by decide) (by decide) (by decide)) (ta := 0) (tb := one.length) ⟨by omega, by omega⟩ (by decide)) lkX2_add mlX1_59 lmX2_add lpX2_add ⟨Nat.le_of_ble_eq_true rfl, Nat.le_of_ble_eq_true rfl⟩ ⟨Nat.le_of_ble_eq_true rfl, Nat.le_of_ble_eq_true rfl⟩ rfl H2.2.2.1 (Nat.le_of_ble_eq_true rfl) (dk rfl) ?_
      rintro _ h3 ⟨rfl, H3, f3⟩
      have T3 := (T2.pr Y H3 f3).congr (fun y hy => (hg y hy).1) (fun y hy => (hg y hy).2)
      have f23 := (f1.trans (f2.u (LCl_p P Q))).trans (f3.u (LCl_p P Q))
      iterate 4 refine fst1_ok X (dk rfl) rfl ?_
      refine WS.sel (l' := [(4, vI 0), (3, .int (bI true)), (0, .ref (P 5))]) [4, 3, 0] (rfl) ?_
      have hfx := fxK_le (one ++ other).length (flX (one ++ other))
      exact loop 97 0 _ _ g3 [(0, one.length)] h3 (by rw [List.length_singleton]; omega) (by omega) (IC0 bY) T3 f23 _ rfl
    | succ u ih =>
      intro i g1 g2 g3 h1 hi T1 hg f1 l hl
      obtain ⟨t1, t2, t3, ⟨ra, ra1, ra2, ra3⟩, t5, t6, t7⟩ := id T1
      have fi : Value.int (nI i + Int32.ofInt 1) = vI (i + 1) := congrArg Value.int (by rw [nI_1', nI_add])
      refine WS.sel [3, 1, 0] hl ?_
      iterate 2 refine fst1_ok X (dk rfl) rfl ?_
      refine br_ok X (dk rfl) rfl (show ((14 : Nat) : Int) + 48 = ((62 : Nat) : Int) from rfl) (fun q => absurd q (by rw [nI_32']; exact nI_ge (by omega) (by omega))) (fun _ => ?_)
      refine fst1_ok X (dk rfl) rfl ?_
      refine getf_ok X flX1_20 (dk rfl) t3 rfl ?_
      iterate 2 refine fst1_ok X (dk rfl) rfl ?_
      refine getf_ok X flX1_16 (dk rfl) t3 rfl ?_
      refine fst1_ok X (dk rfl) rfl ?_
      refine callVR_ok (ci := 7) (T := TX5) (N := 3) (av := [vI i]) (r := [vI i, .ref (Q 61)]) X E (s5_firstLike h1 t1 (ib := 51) (by omega) hX t2 (z := i) (by omega)) lkX5_firstLike mlX1_41 lmX5_firstLike lpX5_firstLike ⟨Nat.le_of_ble_eq_true rfl, Nat.le_of_ble_eq_true rfl⟩ ⟨Nat.le_of_ble_eq_true rfl, Nat.le_of_ble_eq_true rfl⟩ rfl ⟨_, (t1 51 (by omega)).2.1⟩ (Nat.le_of_ble_eq_true rfl) (dk rfl) ?_
      rintro _ rfl
      refine ast7_ok X (dk rfl) ra1 (nI_pos (by omega)) (by rw [nI_clamp (by omega)]; omega) ?_
      rw [nI_clamp (by omega)]
      have T2 := T1.s1 Y ra1 (x := i) (by omega) (nI (flX (one ++ other) i))
      have f2 := f1.set (LCl_q P Q).1 (107, (ra.set i (nI (flX (one ++ other) i))).map Value.int)
      obtain ⟨s1, s2, s3, s4, ⟨rb, rb1, rb2, rb3⟩, s6, s7⟩ := id T2
      refine fst1_ok X (dk rfl) rfl ?_
      refine getf_ok X flX1_24 (dk rfl) s3 rfl ?_
      iterate 2 refine fst1_ok X (dk rfl) rfl ?_
      refine getf_ok X flX1_16 (dk rfl) s3 rfl ?_
      refine fst1_ok X (dk rfl) rfl ?_
      refine callVR_ok (ci := 7) (T := TX5) (N := 3) (av := [vI i]) (r := [vI i, .ref (Q 62)]) X E (s5_letterAt _ s1 (i := 51) (by omega) (nI i)) lkX5_letterAt mlX1_45 lmX5_letterAt lpX5_letterAt ⟨Nat.le_of_ble_eq_true rfl, Nat.le_of_ble_eq_true rfl⟩ ⟨Nat.le_of_ble_eq_true rfl, Nat.le_of_ble_eq_true rfl⟩ rfl ⟨_, (s1 51 (by omega)).2.1⟩ (Nat.le_of_ble_eq_true rfl) (dk rfl) ?_
      rintro _ rfl
      rcases Nat.lt_or_ge i (one ++ other).length with hil | hil
      · have hgi := gl_get hil
        have ogi := gl_ok hX hil
        have lti := ogi.lt
        rw [s2.lt hgi (by omega)]
        refine callNR_ok (av := [vI (gl (one ++ other) i)]) (r := [vI i, .ref (Q 62)]) X E (s6_isHead _ (x := gl (one ++ other) i) (by omega)) lkX6_isHead mnX1_48 lsX6_isHead ⟨Nat.le_of_ble_eq_true rfl, Nat.le_of_ble_eq_true rfl⟩ ⟨Nat.le_of_ble_eq_true rfl, Nat.le_of_ble_eq_true rfl⟩ (Nat.le_of_ble_eq_true rfl) (dk rfl) ?_
        rintro _ rfl
        by_cases h10 : 10 ≤ gl (one ++ other) i
        · rw [decide_eq_true ⟨h10, by rcases ogi with z | z <;> omega⟩]
          refine br_ok X (dk rfl) rfl (show ((47 : Nat) : Int) + 7 = ((54 : Nat) : Int) from rfl) (fun q => absurd q bI_t) (fun _ => ?_)
          have ehd : nI i = pK (hd0 (one ++ other)) i := by
            show _ = pI (hd0 (one ++ other) i)
            unfold hd0
            rw [if_pos ⟨hil, h10⟩]
            rfl
          refine fst1_ok X (dk rfl) rfl ?_
          refine br_ok X (dk rfl) rfl (show ((51 : Nat) : Int) + 4 = ((55 : Nat) : Int) from rfl) (fun _ => ?_) (fun q => absurd trivial q)
          refine ast7_ok X (dk rfl) rb1 (nI_pos (by omega)) (by rw [nI_clamp (by omega)]; omega) ?_
          rw [nI_clamp (by omega)]
          have T3 := T2.s2 Y rb1 (x := i) (by omega) (nI i)
          have f3 := f2.set (LCl_q P Q).2.1 (107, (rb.set i (nI i)).map Value.int)
          refine fst1_ok X (dk rfl) rfl ?_
          refine br_ok X (dk rfl) rfl (show ((59 : Nat) : Int) + (-48) = ((11 : Nat) : Int) from rfl) (fun _ => ?_) (fun q => absurd trivial q)
          refine WS.sel (l' := [(3, vI (i + 1)), (1, .ref (B i1)), (0, .ref (P 5))]) [3, 1, 0] (by rw [← fi]; rfl) ?_
          exact ih (i + 1) _ _ g3 _ (by omega) T3 (fun y hy => by
            unfold up1
            by_cases e9 : y = i
            · rw [if_pos e9, if_pos e9, e9]
              exact ⟨rfl, ehd⟩
            · rw [if_neg e9, if_neg e9]
              exact hg y (by omega)) f3 _ rfl
        · rw [decide_eq_false (fun z => h10 z.1)]
          have hno : ¬ (i < (one ++ other).length ∧ 10 ≤ gl (one ++ other) i) := fun z => h10 z.2
          refine br_ok X (dk rfl) rfl (show ((47 : Nat) : Int) + 7 = ((54 : Nat) : Int) from rfl) (fun _ => ?_) (fun q => absurd bI_f' q)
          have ehd : Int32.ofInt (-1) = pK (hd0 (one ++ other)) i := by
            show _ = pI (hd0 (one ++ other) i)
            unfold hd0
            rw [if_neg hno]
            rfl
          refine fst1_ok X (dk rfl) rfl ?_
          refine ast7_ok X (dk rfl) rb1 (nI_pos (by omega)) (by rw [nI_clamp (by omega)]; omega) ?_
          rw [nI_clamp (by omega)]
          have T3 := T2.s2 Y rb1 (x := i) (by omega) (Int32.ofInt (-1))
          have f3 := f2.set (LCl_q P Q).2.1 (107, (rb.set i (Int32.ofInt (-1))).map Value.int)
          refine fst1_ok X (dk rfl) rfl ?_
          refine br_ok X (dk rfl) rfl (show ((59 : Nat) : Int) + (-48) = ((11 : Nat) : Int) from rfl) (fun _ => ?_) (fun q => absurd trivial q)
          refine WS.sel (l' := [(3, vI (i + 1)), (1, .ref (B i1)), (0, .ref (P 5))]) [3, 1, 0] (by rw [← fi]; rfl) ?_
          exact ih (i + 1) _ _ g3 _ (by omega) T3 (fun y hy => by
            unfold up1
            by_cases e9 : y = i
            · rw [if_pos e9, if_pos e9, e9]
              exact ⟨rfl, ehd⟩
            · rw [if_neg e9, if_neg e9]
              exact hg y (by omega)) f3 _ rfl
      · rw [s2.out hil (by omega)]
        have hno : ¬ (i < (one ++ other).length ∧ 10 ≤ gl (one ++ other) i) := fun z => by omega
        refine callNR_ok (av := [.int (Int8.ofInt (-9)).toInt32]) (r := [vI i, .ref (Q 62)]) X E (s6_isHead9 _) lkX6_isHead mnX1_48 lsX6_isHead ⟨Nat.le_of_ble_eq_true rfl, Nat.le_of_ble_eq_true rfl⟩ ⟨Nat.le_of_ble_eq_true rfl, Nat.le_of_ble_eq_true rfl⟩ (Nat.le_of_ble_eq_true rfl) (dk rfl) ?_
        rintro _ rfl
        refine br_ok X (dk rfl) rfl (show ((47 : Nat) : Int) + 7 = ((54 : Nat) : Int) from rfl) (fun _ => ?_) (fun q => absurd bI_f' q)
        have ehd : Int32.ofInt (-1) = pK (hd0 (one ++ other)) i := by
          show _ = pI (hd0 (one ++ other) i)
          unfold hd0
          rw [if_neg hno]
          rfl
        refine fst1_ok X (dk rfl) rfl ?_
        refine ast7_ok X (dk rfl) rb1 (nI_pos (by omega)) (by rw [nI_clamp (by omega)]; omega) ?_
        rw [nI_clamp (by omega)]
        have T3 := T2.s2 Y rb1 (x := i) (by omega) (Int32.ofInt (-1))
        have f3 := f2.set (LCl_q P Q).2.1 (107, (rb.set i (Int32.ofInt (-1))).map Value.int)
        refine fst1_ok X (dk rfl) rfl ?_
        refine br_ok X (dk rfl) rfl (show ((59 : Nat) : Int) + (-48) = ((11 : Nat) : Int) from rfl) (fun _ => ?_) (fun q => absurd trivial q)
        refine WS.sel (l' := [(3, vI (i + 1)), (1, .ref (B i1)), (0, .ref (P 5))]) [3, 1, 0] (by rw [← fi]; rfl) ?_
        exact ih (i + 1) _ _ g3 _ (by omega) T3 (fun y hy => by
          unfold up1
          by_cases e9 : y = i
          · rw [if_pos e9, if_pos e9, e9]
            exact ⟨rfl, ehd⟩
          · rw [if_neg e9, if_neg e9]
            exact hg y (by omega)) f3 _ rfl
  obtain ⟨r1, r2, r3, r4, r5⟩ := id C.2.2.2
  refine fst1_ok X (dk rfl) rfl ?_
  refine getf_ok X flX1_16 (dk rfl) r2 rfl ?_
  iterate 2 refine fst1_ok X (dk rfl) rfl ?_
  refine callVT_ok (ci := 7) (T := TX5) (N := 3) (av := [.ref (B i1), .ref (B i2)]) (r := []) X E (s5_becomeBoth h Y C.1 (i := 51) (by omega) (j := i1) h1i h1n (k := i2) h2i h2n (by rw [hl1, hl2, hrm]; rw [List.length_append] at hX32; omega)) lkX5_becomeBoth mlX1_37 lmX5_becomeBoth lpX5_becomeBoth ⟨Nat.le_of_ble_eq_true rfl, Nat.le_of_ble_eq_true rfl⟩ ⟨Nat.le_of_ble_eq_true rfl, Nat.le_of_ble_eq_true rfl⟩ rfl (C.1 51 (by omega)).2.1 (Nat.le_of_ble_eq_true rfl) (dk rfl) (fun h1 S1 f1 => ?_)
  have C1 := C.tm Y S1 f1
  obtain ⟨-, g1, -, -, g5⟩ := id C1.2.2.2
  obtain ⟨xa, xa1, xa2⟩ := g5 61 (by decide) (by decide)
  obtain ⟨xb, xb1, xb2⟩ := g5 62 (by decide) (by decide)
  obtain ⟨xc, xc1, xc2⟩ := g5 63 (by decide) (by decide)
  obtain ⟨ga1, RA⟩ := RW1.ex xa1 xa2
  obtain ⟨gb1, RB⟩ := RW1.ex xb1 xb2
  obtain ⟨gc1, RC⟩ := RW1.ex xc1 xc2
  have W1 := C1.2.2.2.prw (k := 1) (by decide)
  iterate 2 refine fst1_ok X (dk rfl) rfl ?_
  exact fill 32 0 ga1 gb1 gc1 h1 rfl ⟨S1, NX, g1, RA, RB, RC, W1⟩ (fun y hy => absurd hy (Nat.not_lt_zero y)) (f1.u _) _ rfl
end S23
