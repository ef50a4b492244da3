/-! the class, strongly: makeAlike of the steps (printed by wip/p20/genT6.py) -/
def okK (k : Nat) : Prop := k = 4 ∨ k = 6 ∨ k = 107
theorem FrU.keep {B Q : Nat → Nat} {L : List Nat} {h h' : AH} {F : Nat → TC} (f : FrU B Q L h h') (S : TS B Q h F) (hL : ∀ a ∈ L, ∃ k vs, h a = some (k, vs) ∧ okK k) {a k : Nat} {vs : List Value} (e : h a = some (k, vs)) (h7 : k ≠ 7) (hk : ¬ okK k) : h' a = some (k, vs) := by
  rw [f a (fun i hi => ?_) (fun z => ?_)]
  · exact e
  · obtain ⟨-, b1, xs, b2, -⟩ := S i hi
    exact ⟨k_ne e b1 h7, k_ne e b2 (fun z => hk (Or.inr (Or.inr z)))⟩
  · obtain ⟨k2, vs2, e2, ok⟩ := hL a z
    rw [e] at e2
    cases e2
    exact hk ok
theorem FrU.frC {B Q : Nat → Nat} {L : List Nat} {h h' : AH} {F : Nat → TC} (f : FrU B Q L h h') (S : TS B Q h F) (hL : ∀ a ∈ L, ∃ k vs, h a = some (k, vs) ∧ okK k) : FrC h h' := fun a c e k => by
  obtain ⟨k1, vs⟩ := c
  refine f.keep S hL e (fun z => ?_) (fun z => ?_)
  · rw [z] at k
    cases k
  · rcases z with z | z | z <;> rw [z] at k <;> cases k
theorem AnO.keepU {B Q : Nat → Nat} {L : List Nat} {h h' : AH} {F : Nat → TC} {oo f : Nat} (H : AnO B h oo f) (g : FrU B Q L h h') (S : TS B Q h F) (hL : ∀ a ∈ L, ∃ k vs, h a = some (k, vs) ∧ okK k) : AnO B h' oo f := by
  obtain ⟨h1, arr, h2, h3⟩ := H
  exact ⟨h1, arr, g.keep S hL h2 (by decide) (by unfold okK; decide), g.keep S hL h3 (by decide) (by unfold okK; decide)⟩
theorem CON.keepU {B Q P : Nat → Nat} {L : List Nat} {h h' : AH} {F : Nat → TC} (H : CON B P h) (g : FrU B Q L h h') (S : TS B Q h F) (hL : ∀ a ∈ L, ∃ k vs, h a = some (k, vs) ∧ okK k) : CON B P h' := by
  obtain ⟨c1, c2, c3, c4, c5⟩ := H
  exact ⟨g.keep S hL c1 (by decide) (by unfold okK; decide), g.keep S hL c2 (by decide) (by unfold okK; decide), fun k hk => (c3 k hk).keepU g S hL, c4.keepU g S hL, c5.keepU g S hL⟩
section SCs
variable {B Q P : Nat → Nat} {ox : Nat} {kn : Int32} {h h' : AH} {F F' : Nat → TC} {d r : Int32}
theorem SCR.pne (Y : LYO B Q) (R : SCR B Q P h) {i j : Nat} (hi : i < 3) (hj : j < 3) (hne : i ≠ j) : P (13 + i) ≠ P (13 + j) := fun z => by
  obtain ⟨w1, -, e1⟩ := R.2.2.2.1 i hi
  obtain ⟨w2, -, e2⟩ := R.2.2.2.1 j hj
  rw [z, e2] at e1
  have e3 : Q (64 + 2 * j) = Q (64 + 2 * i) := by injection e1 with e1; injection e1 with _ e1; injection e1 with e1; injection e1
  have := Y.2 _ _ (by omega) (by omega) e3
  omega
theorem SCR.prw (R : SCR B Q P h) {k : Nat} (hk : k < 3) : PRW h (P (13 + k)) (Q (64 + 2 * k)) (Q (65 + 2 * k)) := by
  obtain ⟨w, w1, w2⟩ := R.2.2.2.1 k hk
  obtain ⟨xs, x1, x2⟩ := R.2.2.2.2 (64 + 2 * k) (by omega) (by omega)
  obtain ⟨ys, y1, y2⟩ := R.2.2.2.2 (65 + 2 * k) (by omega) (by omega)
  refine ⟨⟨w, w1, w2⟩, ⟨xs, x1, ?_⟩, ys, y1, ?_⟩
  · rw [x2]
    unfold rlI
    rw [if_neg (by omega), if_neg (by omega)]
  · rw [y2]
    unfold rlI
    rw [if_neg (by omega), if_neg (by omega)]
theorem SCR.lst (R : SCR B Q P h) : ∀ a ∈ LSt P Q, ∃ k vs, h a = some (k, vs) ∧ okK k := fun a ha => by
  obtain ⟨⟨t, e, r1⟩, r2, r3, r4, r5⟩ := R
  unfold LSt at ha
  simp only [List.mem_cons, List.not_mem_nil, or_false] at ha
  rcases ha with rfl | rfl | rfl | rfl | rfl
  · exact ⟨_, _, r1, Or.inr (Or.inl rfl)⟩
  · obtain ⟨xs, x1, -⟩ := r5 60 (by decide) (by decide)
    exact ⟨_, _, x1, Or.inr (Or.inr rfl)⟩
  · obtain ⟨w, w1, w2⟩ := r4 0 (by decide)
    exact ⟨_, _, w2, Or.inl rfl⟩
  · obtain ⟨xs, x1, -⟩ := r5 64 (by decide) (by decide)
    exact ⟨_, _, x1, Or.inr (Or.inr rfl)⟩
  · obtain ⟨xs, x1, -⟩ := r5 65 (by decide) (by decide)
    exact ⟨_, _, x1, Or.inr (Or.inr rfl)⟩
/-- a row that isn't written to -/
theorem SCR.rowU {L : List Nat} (Y : LYO B Q) (R : SCR B Q P h) (S : TS B Q h F) (g : FrU B Q L h h') {j : Nat} (h1 : 60 ≤ j) (h2 : j < 70) (hn : Q j ∉ L) : ∃ xs : List Int32, h' (Q j) = some (107, xs.map Value.int) ∧ xs.length = rlI j := by
  obtain ⟨xs, x1, x2⟩ := R.2.2.2.2 j h1 h2
  refine ⟨xs, ?_, x2⟩
  rw [g (Q j) (fun i hi => ⟨?_, fun z => by have := Y.2 _ _ h2 (by omega) z; omega⟩) hn]
  · exact x1
  · obtain ⟨-, b1, -⟩ := S i hi
    exact k_ne x1 b1 (by decide)
/-- pairs that aren't written to -/
theorem SCR.prU {L : List Nat} (R : SCR B Q P h) (S : TS B Q h F) (g : FrU B Q L h h') {k : Nat} (hk : k < 3) (hn : P (13 + k) ∉ L) : ∃ w : Nat, w ≤ 128 ∧ h' (P (13 + k)) = some (4, [.ref (Q (64 + 2 * k)), .ref (Q (65 + 2 * k)), vI w]) := by
  obtain ⟨w, w1, w2⟩ := R.2.2.2.1 k hk
  refine ⟨w, w1, ?_⟩
  rw [g _ (fun i hi => ?_) hn]
  · exact w2
  · obtain ⟨-, b1, xs, b2, -⟩ := S i hi
    exact ⟨k_ne w2 b1 (by decide), k_ne w2 b2 (by decide)⟩
/-- the class's cells after steps -/
theorem CLS.st {X : List Nat} {S : SS} {ps : PL2} {tk en : Int32} (Y : LYO B Q) (C : CLS B Q P ox kn h F d r) (T : STP B Q P h' F' X S ps tk en) (f : FrU B Q (LSt P Q) h h') : CLS B Q P ox kn h' F' d r := by
  obtain ⟨c1, c2, c3, c4⟩ := id C
  have hL := c4.lst
  have hq : ∀ j, 60 ≤ j → j < 70 → j ≠ 60 → j ≠ 64 → j ≠ 65 → Q j ∉ LSt P Q := fun j h1 h2 n0 n4 n5 z => by
    obtain ⟨⟨t, e, r1⟩, -, -, r4, r5⟩ := c4
    obtain ⟨xs, x1, -⟩ := r5 j h1 h2
    obtain ⟨w, -, w2⟩ := r4 0 (by decide)
    unfold LSt at z
    simp only [List.mem_cons, List.not_mem_nil, or_false] at z
    rcases z with z | z | z | z | z
    · exact k_ne x1 r1 (by decide) z
    · exact n0 (Y.2 _ _ h2 (by decide) z)
    · exact k_ne x1 w2 (by decide) z
    · exact n4 (Y.2 _ _ h2 (by decide) z)
    · exact n5 (Y.2 _ _ h2 (by decide) z)
  have hp : ∀ k, k < 3 → k ≠ 0 → P (13 + k) ∉ LSt P Q := fun k hk n0 z => by
    have hne := c4.pne Y hk (j := 0) (by decide) n0
    obtain ⟨⟨t, e, r1⟩, -, -, r4, r5⟩ := c4
    obtain ⟨w, -, w2⟩ := r4 k hk
    unfold LSt at z
    simp only [List.mem_cons, List.not_mem_nil, or_false] at z
    rcases z with z | z | z | z | z
    · exact k_ne w2 r1 (by decide) z
    · obtain ⟨xs, x1, -⟩ := r5 60 (by decide) (by decide)
      exact k_ne w2 x1 (by decide) z
    · exact hne z
    · obtain ⟨xs, x1, -⟩ := r5 64 (by decide) (by decide)
      exact k_ne w2 x1 (by decide) z
    · obtain ⟨xs, x1, -⟩ := r5 65 (by decide) (by decide)
      exact k_ne w2 x1 (by decide) z
  obtain ⟨t1, t2, t3, ⟨row, q1, q2, q3⟩, t5⟩ := T
  refine ⟨t1, f.keep c1 hL c2 (by decide) (by unfold okK; decide), c3.keepU f c1 hL, ⟨tk, en, t3⟩, f.keep c1 hL c4.2.1 (by decide) (by unfold okK; decide), f.keep c1 hL c4.2.2.1 (by decide) (by unfold okK; decide), fun k hk => ?_, fun j h1 h2 => ?_⟩
  · by_cases e : k = 0
    · subst e
      exact ⟨_, t5.1, t5.2.2.1⟩
    · exact c4.prU c1 f hk (hp k hk e)
  · by_cases e0 : j = 60
    · subst e0
      exact ⟨row, q1, q2⟩
    · by_cases e4 : j = 64
      · subst e4
        obtain ⟨-, -, -, ⟨xs, x1, x2, -⟩, -⟩ := t5
        exact ⟨xs, x1, x2⟩
      · by_cases e5 : j = 65
        · subst e5
          obtain ⟨-, -, -, -, ys, y1, y2, -⟩ := t5
          exact ⟨ys, y1, y2⟩
        · exact c4.rowU Y c1 f h1 h2 (hq j h1 h2 e0 e4 e5)
end SCs
section S18
variable {la : Launch} {D : va_G} {cA : Nat → ClassId} {B0 pa : Nat} {B Q P : Nat → Nat} {ox : Nat} {kn : Int32} {F : Nat → TC} {d r : Int32} {ps : PL2} {tk en : Int32}
set_option maxHeartbeats 4000000 in
theorem s4_tellInto (h : AH) (Y : LYO B Q) {X1 : List Nat} {Sx : SS} (T : STP B Q P h F X1 Sx ps tk en) {oo f : Nat} (O : AnO B h oo f) (hrm : ∀ n, n < 8 → rmI (f + n) = 16) (hX : BX X1) (hS : S1 X1 Sx) (hA : Ac X1 Sx) {Ex : Nat → List Nat} (hE : ExP X1 Sx Ex) : CT la D cA B0 pa yX4_tellInto cX4_tellInto 2 none (rmD 4 0 0) [.ref (P 4), .ref oo] h (whC B Q F f Ex h) := by
  refine CT_of (by decide +kernel) (Nat.le_of_ble_eq_true rfl) ?_
  intro p e s m args below meth c X E hr hlk hnm
  have dk : ∀ {pc : Nat} {q : Instr × Nat}, lkd DX4_tellInto pc = some q → decode cX4_tellInto pc = .ok q := lkd_ok DX4_tellInto_ok
  obtain ⟨t1, t2, t3, ⟨row, q1, q2, q3⟩, t5⟩ := id T
  iterate 2 refine fst1_ok X (dk rfl) rfl ?_
  refine getf_ok X flX4_14 (dk rfl) t3 rfl ?_
  refine fst1_ok X (dk rfl) rfl ?_
  refine getf_ok X flX4_20 (dk rfl) t3 rfl ?_
  refine callV_ok (ci := 2) (T := TX0) (N := 1) (av := [.ref (B 50), .ref (Q 60)]) (r := []) X E (s0_becomeWholeOf h Y t1 O hrm (ib := 50) (by omega) (by have := O.1; omega) hX t2 (R := Q 60) q1 q2 q3 (fun i hi z => by have := Y.2 _ _ (by decide) (by omega) z; omega) hS hA hE) lkX0_becomeWholeOf mlX4_64 lmX0_becomeWholeOf lpX0_becomeWholeOf ⟨Nat.le_of_ble_eq_true rfl, Nat.le_of_ble_eq_true rfl⟩ ⟨Nat.le_of_ble_eq_true rfl, Nat.le_of_ble_eq_true rfl⟩ rfl O.2.choose_spec.1 (Nat.le_of_ble_eq_true rfl) (dk rfl) ?_
  rintro _ h1 ⟨rfl, f1, G, S1, g1⟩
  exact retv_ok X hr hlk (dk rfl) (⟨rfl, f1, G, S1, g1⟩) (Nat.le_of_ble_eq_true rfl) (Nat.le_of_ble_eq_true rfl)
/-- two terms were made alike by steps -/
def maP (B Q P : Nat → Nat) (ox : Nat) (kn : Int32) (F : Nat → TC) (d r : Int32) (X : List Nat) (S : SS) (w m : Nat) (h : AH) (v : Option Value) (h' : AH) : Prop :=
  v = some (.int (bI (decide (w = 0)))) ∧ FrC h h' ∧ ∃ (F' : Nat → TC) (ps : PL2), CLS B Q P ox kn h' F' d r ∧ (∀ i, i ≠ 50 → F' i = F i) ∧ STP B Q P h' F' X S ps (nI m) (nI w)
set_option maxHeartbeats 32000000 in
theorem s4_makeAlike (h : AH) (Y : LYO B Q) (C : CLS B Q P ox kn h F d r) {i1 i2 : Nat} (h1i : i1 < 52) (h1n : i1 ≠ 50) (h2i : i2 < 52) (h2n : i2 ≠ 50) {one other : List Nat} (N1 : TN (F i1) one) (N2 : TN (F i2) other) (t1 : TW one ∧ one.length ≤ 16) (t2 : TW other ∧ other.length ≤ 16) {Sx : SS} {wy mm : Nat} (hrun : runM (one ++ other) mm sN 0 [(0, one.length)] = some (Sx, wy, mm)) (hmm : mm ≤ 4211) (hwy : wy ≤ 2) : CT la D cA B0 pa yX4_makeAlike cX4_makeAlike 4 (some .boolean) (rmD 4 0 0) [.ref (P 4), .ref (B i1), .ref (B i2)] h (maP B Q P ox kn F d r (one ++ other) Sx wy mm h) := by
  refine CT_of (by decide +kernel) (Nat.le_of_ble_eq_true rfl) ?_
  intro p e s m args below meth c X E hr hlk hnm
  have dk : ∀ {pc : Nat} {q : Instr × Nat}, lkd DX4_makeAlike pc = some q → decode cX4_makeAlike pc = .ok q := lkd_ok DX4_makeAlike_ok
  obtain ⟨bY, ey1, ey2⟩ := BY_of t1 t2
  have hX := bY.1
  have hX32 := hX.2.2
  have hrm : rmI 50 = 32 := rfl
  have hl1 := N1.len
  have hl2 := N2.len
  have NX : TN ((upF F 50 ((F i1).1 ++ (F i2).1, (F i1).2 || (F i2).2)) 50) (one ++ other) := by
    rw [upF_self]
    refine ⟨?_, fun x hx => (List.mem_append.mp hx).elim (N1.2 x) (N2.2 x)⟩
    show (F i1).1 ++ (F i2).1 = (one ++ other).map nI
    rw [N1.1, N2.1, List.map_append]
  have hL := C.2.2.2.lst
  have out : ∀ (h1 : AH) (ps : PL2), STP B Q P h1 (upF F 50 ((F i1).1 ++ (F i2).1, (F i1).2 || (F i2).2)) (one ++ other) Sx ps (nI mm) (nI wy) → FrU B Q (LSt P Q) h h1 → ∀ l : List (Nat × Value), lsel l [0] = [(0, .ref (P 4))] → WR p la e (rmD 4 0 0) s m args below meth c D cA B0 4 (maP B Q P ox kn F d r (one ++ other) Sx wy mm h) 81 l [] h1 0 0 := by
    intro h1 ps T1 f1 l hl
    have fin : maP B Q P ox kn F d r (one ++ other) Sx wy mm h (some (.int (bI (decide (wy = 0))))) h1 := ⟨rfl, f1.frC C.1 hL, _, ps, C.st Y T1 f1, fun i hi => upF_ne _ _ hi, T1⟩
    refine WS.sel [0] hl ?_
    refine fst1_ok X (dk rfl) rfl ?_
    refine getf_ok X flX4_56 (dk rfl) T1.2.2.1 rfl ?_
    by_cases hz : wy = 0
    · rw [decide_eq_true hz] at fin
      rw [show nI wy = 0 by rw [hz]; rfl]
      refine br_ok X (dk rfl) rfl (show ((85 : Nat) : Int) + 7 = ((92 : Nat) : Int) from rfl) (fun q => absurd rfl q) (fun _ => ?_)
      refine fst1_ok X (dk rfl) rfl ?_
      refine br_ok X (dk rfl) rfl (show ((89 : Nat) : Int) + 4 = ((93 : Nat) : Int) from rfl) (fun _ => ?_) (fun q => absurd trivial q)
      exact reti_ok X hr hlk (bI_n true) (dk rfl) (fin) (Nat.le_of_ble_eq_true rfl) (Nat.le_of_ble_eq_true rfl)
    · rw [decide_eq_false hz] at fin
      refine br_ok X (dk rfl) rfl (show ((85 : Nat) : Int) + 7 = ((92 : Nat) : Int) from rfl) (fun _ => ?_) (fun q => absurd (fun z => hz (nI_inj (b := 0) (by omega) (by omega) z)) q)
      refine fst1_ok X (dk rfl) rfl ?_
      exact reti_ok X hr hlk (bI_n false) (dk rfl) (fin) (Nat.le_of_ble_eq_true rfl) (Nat.le_of_ble_eq_true rfl)
  have loop : ∀ (n k m0 : Nat) (S : SS) (sk : PL2) (h1 : AH), runM (one ++ other) n S m0 sk = some (Sx, wy, mm) → S1 (one ++ other) S → (∀ z ∈ sk, z.1 < (one ++ other).length ∧ z.2 < (one ++ other).length) → k + n < 1000000 → m0 + n < 2 ^ 20 → STP B Q P h1 (upF F 50 ((F i1).1 ++ (F i2).1, (F i1).2 || (F i2).2)) (one ++ other) S sk.reverse (nI m0) 0 → FrU B Q (LSt P Q) h h1 → ∀ l : List (Nat × Value), lsel l [3, 0] = [(3, vI k), (0, .ref (P 4))] → WR p la e (rmD 4 0 0) s m args below meth c D cA B0 4 (maP B Q P ox kn F d r (one ++ other) Sx wy mm h) 48 l [] h1 0 0 := by
    intro n
    induction n with
    | zero =>
      intro k m0 S sk h1 hrun hS hin hk hm T1 f1 l hl
      cases sk with
      | nil =>
        rw [runM_nil] at hrun
        have e1 : S = Sx ∧ 0 = wy ∧ m0 = mm := by simpa using hrun
        obtain ⟨rfl, rfl, rfl⟩ := e1
        refine WS.sel [3, 0] hl ?_
        refine fst1_ok X (dk rfl) rfl ?_
        refine ldc_ok X csX4_59 (dk rfl) ?_
        refine br_ok X (dk rfl) rfl (show ((51 : Nat) : Int) + 30 = ((81 : Nat) : Int) from rfl) (fun q => absurd q (by rw [show (1000000 : Int32) = nI 1000000 by decide +kernel]; exact nI_ge (by omega) (by omega))) (fun _ => ?_)
        refine fst1_ok X (dk rfl) rfl ?_
        refine getf_ok X flX4_27 (dk rfl) T1.2.2.1 rfl ?_
        refine callVR_ok (ci := 4) (T := TX2) (N := 3) (av := []) (r := []) X E (s2_length h1 T1.2.2.2.2) lkX2_length mlX4_60 lmX2_length lpX2_length ⟨Nat.le_of_ble_eq_true rfl, Nat.le_of_ble_eq_true rfl⟩ ⟨Nat.le_of_ble_eq_true rfl, Nat.le_of_ble_eq_true rfl⟩ rfl ⟨_, T1.2.2.2.2.2.2.1⟩ (Nat.le_of_ble_eq_true rfl) (dk rfl) ?_
        rintro _ rfl
        refine br_ok X (dk rfl) rfl (show ((61 : Nat) : Int) + 20 = ((81 : Nat) : Int) from rfl) (fun _ => ?_) (fun q => absurd (by decide) q)
        exact out h1 _ T1 f1 _ rfl
      | cons z sk => rw [runM] at hrun; cases hrun
    | succ n ih =>
      intro k m0 S sk h1 hrun hS hin hk hm T1 f1 l hl
      cases sk with
      | nil =>
        rw [runM_nil] at hrun
        have e1 : S = Sx ∧ 0 = wy ∧ m0 = mm := by simpa using hrun
        obtain ⟨rfl, rfl, rfl⟩ := e1
        refine WS.sel [3, 0] hl ?_
        refine fst1_ok X (dk rfl) rfl ?_
        refine ldc_ok X csX4_59 (dk rfl) ?_
        refine br_ok X (dk rfl) rfl (show ((51 : Nat) : Int) + 30 = ((81 : Nat) : Int) from rfl) (fun q => absurd q (by rw [show (1000000 : Int32) = nI 1000000 by decide +kernel]; exact nI_ge (by omega) (by omega))) (fun _ => ?_)
        refine fst1_ok X (dk rfl) rfl ?_
        refine getf_ok X flX4_27 (dk rfl) T1.2.2.1 rfl ?_
        refine callVR_ok (ci := 4) (T := TX2) (N := 3) (av := []) (r := []) X E (s2_length h1 T1.2.2.2.2) lkX2_length mlX4_60 lmX2_length lpX2_length ⟨Nat.le_of_ble_eq_true rfl, Nat.le_of_ble_eq_true rfl⟩ ⟨Nat.le_of_ble_eq_true rfl, Nat.le_of_ble_eq_true rfl⟩ rfl ⟨_, T1.2.2.2.2.2.2.1⟩ (Nat.le_of_ble_eq_true rfl) (dk rfl) ?_
        rintro _ rfl
        refine br_ok X (dk rfl) rfl (show ((61 : Nat) : Int) + 20 = ((81 : Nat) : Int) from rfl) (fun _ => ?_) (fun q => absurd (by decide) q)
        exact out h1 _ T1 f1 _ rfl
      | cons z sk =>
        obtain ⟨u1, u2⟩ := z
        obtain ⟨hu1, hu2⟩ := hin (u1, u2) List.mem_cons_self
        rw [runM] at hrun
        by_cases h126 : 126 ≤ sk.length
        · rw [if_pos h126] at hrun
          cases hrun
        rw [if_neg h126] at hrun
        rw [List.reverse_cons] at T1
        obtain ⟨o1, o2, o3, o4⟩ := stepM_ok hX hS hu1 hu2
        have elen : (sk.reverse ++ [(u1, u2)]).length = sk.length + 1 := by rw [List.length_append, List.length_reverse, List.length_singleton]
        refine WS.sel [3, 0] hl ?_
        refine fst1_ok X (dk rfl) rfl ?_
        refine ldc_ok X csX4_59 (dk rfl) ?_
        refine br_ok X (dk rfl) rfl (show ((51 : Nat) : Int) + 30 = ((81 : Nat) : Int) from rfl) (fun q => absurd q (by rw [show (1000000 : Int32) = nI 1000000 by decide +kernel]; exact nI_ge (by omega) (by omega))) (fun _ => ?_)
        refine fst1_ok X (dk rfl) rfl ?_
        refine getf_ok X flX4_27 (dk rfl) T1.2.2.1 rfl ?_
        refine callVR_ok (ci := 4) (T := TX2) (N := 3) (av := []) (r := []) X E (s2_length h1 T1.2.2.2.2) lkX2_length mlX4_60 lmX2_length lpX2_length ⟨Nat.le_of_ble_eq_true rfl, Nat.le_of_ble_eq_true rfl⟩ ⟨Nat.le_of_ble_eq_true rfl, Nat.le_of_ble_eq_true rfl⟩ rfl ⟨_, T1.2.2.2.2.2.2.1⟩ (Nat.le_of_ble_eq_true rfl) (dk rfl) ?_
        rintro _ rfl
        rw [elen]
        refine br_ok X (dk rfl) rfl (show ((61 : Nat) : Int) + 20 = ((81 : Nat) : Int) from rfl) (fun q => absurd q (nI_nle (Nat.succ_pos _) (by omega))) (fun _ => ?_)
        refine fst1_ok X (dk rfl) rfl ?_
        refine getf_ok X flX4_56 (dk rfl) T1.2.2.1 rfl ?_
        refine br_ok X (dk rfl) rfl (show ((68 : Nat) : Int) + 13 = ((81 : Nat) : Int) from rfl) (fun q => absurd rfl q) (fun _ => ?_)
        refine fst1_ok X (dk rfl) rfl ?_
        refine callV_ok (ci := 6) (T := TX4) (N := 5) (av := []) (r := []) X E (s4_takeStep h1 Y bY T1 hX hS (by rw [List.length_reverse]; omega) hu1 hu2) lkX4_takeStep mlX4_61 lmX4_takeStep lpX4_takeStep ⟨Nat.le_of_ble_eq_true rfl, Nat.le_of_ble_eq_true rfl⟩ ⟨Nat.le_of_ble_eq_true rfl, Nat.le_of_ble_eq_true rfl⟩ rfl T1.2.2.1 (Nat.le_of_ble_eq_true rfl) (dk rfl) ?_
        rintro _ h2 ⟨rfl, T2, f2⟩
        refine fst1_ok X (dk rfl) rfl ?_
        refine br_ok X (dk rfl) rfl (show ((78 : Nat) : Int) + (-30) = ((48 : Nat) : Int) from rfl) (fun _ => ?_) (fun q => absurd trivial q)
        have f3 : Value.int (nI k + Int32.ofInt 1) = vI (k + 1) := congrArg Value.int (by rw [nI_1', nI_add])
        refine WS.sel (l' := [(3, vI (k + 1)), (0, .ref (P 4))]) [3, 0] (by rw [← f3]; rfl) ?_
        rw [← List.reverse_append, nI_1', nI_add] at T2
        have f12 := f1.trans f2
        by_cases hw : (stepM (one ++ other) S u1 u2).2.1 = 0
        · rw [if_pos hw] at hrun
          rw [hw] at T2
          exact ih (k + 1) (m0 + 1) _ _ h2 hrun o1 (fun z hz => (List.mem_append.mp hz).elim (o2 z) (fun q => hin z (List.mem_cons_of_mem _ q))) (by omega) (by omega) T2 f12 _ rfl
        · rw [if_neg hw] at hrun
          have e1 : (stepM (one ++ other) S u1 u2).1 = Sx ∧ (stepM (one ++ other) S u1 u2).2.1 = wy ∧ m0 + 1 = mm := by simpa using hrun
          obtain ⟨e1, e2, e3⟩ := e1
          rw [e1, e2, e3] at T2
          rw [e2] at hw o3
          refine fst1_ok X (dk rfl) rfl ?_
          refine ldc_ok X csX4_59 (dk rfl) ?_
          refine br_ok X (dk rfl) rfl (show ((51 : Nat) : Int) + 30 = ((81 : Nat) : Int) from rfl) (fun q => absurd q (by rw [show (1000000 : Int32) = nI 1000000 by decide +kernel]; exact nI_ge (by omega) (by omega))) (fun _ => ?_)
          refine fst1_ok X (dk rfl) rfl ?_
          refine getf_ok X flX4_27 (dk rfl) T2.2.2.1 rfl ?_
          refine callVR_ok (ci := 4) (T := TX2) (N := 3) (av := []) (r := []) X E (s2_length h2 T2.2.2.2.2) lkX2_length mlX4_60 lmX2_length lpX2_length ⟨Nat.le_of_ble_eq_true rfl, Nat.le_of_ble_eq_true rfl⟩ ⟨Nat.le_of_ble_eq_true rfl, Nat.le_of_ble_eq_true rfl⟩ rfl ⟨_, T2.2.2.2.2.2.2.1⟩ (Nat.le_of_ble_eq_true rfl) (dk rfl) ?_
          rintro _ rfl
          refine br_ok X (dk rfl) rfl (show ((61 : Nat) : Int) + 20 = ((81 : Nat) : Int) from rfl) (fun c1 => ?_) (fun c1 => ?_)
          · exact out h2 _ T2 f12 _ rfl
          · refine fst1_ok X (dk rfl) rfl ?_
            refine getf_ok X flX4_56 (dk rfl) T2.2.2.1 rfl ?_
            refine br_ok X (dk rfl) rfl (show ((68 : Nat) : Int) + 13 = ((81 : Nat) : Int) from rfl) (fun _ => ?_) (fun q => absurd (fun z => hw (nI_inj (b := 0) (by omega) (by omega) z)) q)
            exact out h2 _ T2 f12 _ rfl
  obtain ⟨⟨t0, e0, r1⟩, r2, r3, r4, r5⟩ := id C.2.2.2
  refine fst1_ok X (dk rfl) rfl ?_
  refine getf_ok X flX4_14 (dk rfl) r1 rfl ?_
  iterate 2 refine fst1_ok X (dk rfl) rfl ?_
  refine callVT_ok (ci := 7) (T := TX5) (N := 3) (av := [.ref (B i1), .ref (B i2)]) (r := []) X E (s5_becomeBoth h Y C.1 (i := 50) (by omega) (j := i1) h1i h1n (k := i2) h2i h2n (by rw [hl1, hl2, hrm]; omega)) lkX5_becomeBoth mlX4_31 lmX5_becomeBoth lpX5_becomeBoth ⟨Nat.le_of_ble_eq_true rfl, Nat.le_of_ble_eq_true rfl⟩ ⟨Nat.le_of_ble_eq_true rfl, Nat.le_of_ble_eq_true rfl⟩ rfl (C.1 50 (by omega)).2.1 (Nat.le_of_ble_eq_true rfl) (dk rfl) (fun h1 S1 f1 => ?_)
  have C1 := C.tm Y S1 f1
  obtain ⟨⟨t1v, e1v, g1⟩, -, -, -, g5⟩ := id C1.2.2.2
  obtain ⟨row, x1, x2⟩ := g5 60 (by decide) (by decide)
  refine fst1_ok X (dk rfl) rfl ?_
  refine getf_ok X flX4_20 (dk rfl) g1 rfl ?_
  refine fst1_ok X (dk rfl) rfl ?_
  refine callS_ok (av := [.ref (Q 60), .int (Int32.ofInt (-1))]) (r := []) X E (sJ7_fill h1 x1 x2 (Int32.ofInt (-1))) lkJ7_fill_53178 mlX4_35 lsJ7_fill_53178 ⟨Nat.le_of_ble_eq_true rfl, Nat.le_of_ble_eq_true rfl⟩ ⟨Nat.le_of_ble_eq_true rfl, Nat.le_of_ble_eq_true rfl⟩ (Nat.le_of_ble_eq_true rfl) (dk rfl) ?_
  rintro _ h2 ⟨rfl, y1, y2⟩
  have W1 := C1.2.2.2.prw (k := 0) (by decide)
  obtain ⟨⟨wv, wv1, wv2⟩, ⟨xs, xs1, xs2⟩, ys, ys1, ys2⟩ := id W1
  have q64 : Q 64 ≠ Q 60 := fun z => by have := Y.2 64 60 (by decide) (by decide) z; omega
  have q65 : Q 65 ≠ Q 60 := fun z => by have := Y.2 65 60 (by decide) (by decide) z; omega
  have W2 : PRW h2 (P 13) (Q 64) (Q 65) := ⟨⟨wv, wv1, by rw [y2 _ (k_ne wv2 x1 (by decide))]; exact wv2⟩, ⟨xs, by rw [y2 _ q64]; exact xs1, xs2⟩, ys, by rw [y2 _ q65]; exact ys1, ys2⟩
  have S2 : TS B Q h2 (upF F 50 ((F i1).1 ++ (F i2).1, (F i1).2 || (F i2).2)) := fun i hi => by
    obtain ⟨a1, a2, zs, a3, a4⟩ := S1 i hi
    exact ⟨a1, by rw [y2 _ (k_ne a2 x1 (by decide))]; exact a2, zs, by rw [y2 _ (fun z => by have := Y.2 _ _ (by omega) (by decide) z; omega)]; exact a3, a4⟩
  have g2 : h2 (P 4) = some (6, [.ref (B 50), .ref (Q 60), .ref (P 13), .int t1v, .int e1v]) := by rw [y2 _ (k_ne g1 x1 (by decide))]; exact g1
  refine fst1_ok X (dk rfl) rfl ?_
  refine getf_ok X flX4_27 (dk rfl) g2 rfl ?_
  refine callV_ok (ci := 4) (T := TX2) (N := 3) (av := []) (r := []) X E (s2_empty h2 W2) lkX2_empty mlX4_41 lmX2_empty lpX2_empty ⟨Nat.le_of_ble_eq_true rfl, Nat.le_of_ble_eq_true rfl⟩ ⟨Nat.le_of_ble_eq_true rfl, Nat.le_of_ble_eq_true rfl⟩ rfl W2.1.choose_spec.2 (Nat.le_of_ble_eq_true rfl) (dk rfl) ?_
  rintro _ h3 ⟨rfl, H3, f3⟩
  have g3 := f3.keep W2 g2 (by decide) (by decide)
  have hA := hAq (a := 64) (b := 65) Y (by decide) (by decide) (by decide) (by decide)
  have S3 := S2.frPw f3 W2 hA
  refine fst1_ok X (dk rfl) rfl ?_
  refine getf_ok X flX4_27 (dk rfl) g3 rfl ?_
  iterate 2 refine fst1_ok X (dk rfl) rfl ?_
  refine callVR_ok (ci := 7) (T := TX5) (N := 3) (av := []) (r := [vI 0, .ref (P 13)]) X E (s5_length h3 S3 h1i) lkX5_length mlX4_44 lmX5_length lpX5_length ⟨Nat.le_of_ble_eq_true rfl, Nat.le_of_ble_eq_true rfl⟩ ⟨Nat.le_of_ble_eq_true rfl, Nat.le_of_ble_eq_true rfl⟩ rfl ⟨_, (S3 i1 h1i).2.1⟩ (Nat.le_of_ble_eq_true rfl) (dk rfl) ?_
  rintro _ rfl
  rw [upF_ne _ _ h1n, hl1]
  refine callV_ok (ci := 4) (T := TX2) (N := 3) (av := [vI 0, vI one.length]) (r := []) X E (s2_add h3 H3 (fun z => by have := Y.2 64 65 (by decide) (by decide) z; omega) (ta := 0) (tb := one.length) ⟨by omega, by omega⟩ (by decide)) lkX2_add mlX4_48 lmX2_add lpX2_add ⟨Nat.le_of_ble_eq_true rfl, Nat.le_of_ble_eq_true rfl⟩ ⟨Nat.le_of_ble_eq_true rfl, Nat.le_of_ble_eq_true rfl⟩ rfl H3.2.2.1 (Nat.le_of_ble_eq_true rfl) (dk rfl) ?_
  rintro _ h4 ⟨rfl, H4, f4⟩
  have g4 := f4.keep H3.w g3 (by decide) (by decide)
  have S4 := S3.frPw f4 H3.w hA
  have R4 : h4 (Q 60) = some (107, (List.replicate 8 (Int32.ofInt (-1))).map Value.int) := by rw [f4 _ (k_ne (by rw [f3 _ (k_ne y1 W2.1.choose_spec.2 (by decide)) (Ne.symm q64) (Ne.symm q65)]; exact y1) H3.2.2.1 (by decide)) (Ne.symm q64) (Ne.symm q65), f3 _ (k_ne y1 W2.1.choose_spec.2 (by decide)) (Ne.symm q64) (Ne.symm q65)]; exact y1
  have T4 : STP B Q P h4 (upF F 50 ((F i1).1 ++ (F i2).1, (F i1).2 || (F i2).2)) (one ++ other) sN [(0, one.length)] t1v e1v := ⟨S4, NX, g4, ⟨_, R4, rfl, fun n hn => by rw [List.getElem?_replicate, if_pos hn]; rfl⟩, H4⟩
  iterate 2 refine fst1_ok X (dk rfl) rfl ?_
  refine putf_ok X flX4_52 ftX4_3 (Or.inl rfl) rfl rfl (dk rfl) T4.2.2.1 (Nat.le_of_ble_eq_true rfl) ?_
  have T5 := T4.fld (Int32.ofInt 0) e1v
  iterate 2 refine fst1_ok X (dk rfl) rfl ?_
  refine putf_ok X flX4_56 ftX4_4 (Or.inl rfl) rfl rfl (dk rfl) T5.2.2.1 (Nat.le_of_ble_eq_true rfl) ?_
  have T6 := T5.fld (Int32.ofInt 0) (Int32.ofInt 0)
  have hl3 : P 13 ∈ LSt P Q ∧ Q 64 ∈ LSt P Q ∧ Q 65 ∈ LSt P Q := ⟨List.mem_cons_of_mem _ (List.mem_cons_of_mem _ List.mem_cons_self), List.mem_cons_of_mem _ (List.mem_cons_of_mem _ (List.mem_cons_of_mem _ List.mem_cons_self)), List.mem_cons_of_mem _ (List.mem_cons_of_mem _ (List.mem_cons_of_mem _ (List.mem_cons_of_mem _ List.mem_cons_self)))⟩
  have f02 : FrU B Q (LSt P Q) h1 h2 := fun a _ ka => y2 a (fun z => ka (by rw [z]; exact List.mem_cons_of_mem _ List.mem_cons_self))
  have fall := (((((f1.u (LSt P Q)).trans f02).trans (f3.u hl3)).trans (f4.u hl3)).set (q := P 4) List.mem_cons_self (6, [.ref (B 50), .ref (Q 60), .ref (P 13), .int (Int32.ofInt 0), .int e1v])).set (q := P 4) List.mem_cons_self (6, [.ref (B 50), .ref (Q 60), .ref (P 13), .int (Int32.ofInt 0), .int (Int32.ofInt 0)])
  iterate 2 refine fst1_ok X (dk rfl) rfl ?_
  have h0l : 0 < (one ++ other).length := by have := bY.2.1; have := bY.2.2.2.1; omega
  exact loop mm 0 0 sN [(0, one.length)] _ hrun (fun x q hq => by cases hq) (fun z hz => by rw [List.mem_singleton.mp hz]; exact ⟨h0l, bY.2.2.2.1⟩) (by omega) (by omega) T6 fall _ rfl
end S18
