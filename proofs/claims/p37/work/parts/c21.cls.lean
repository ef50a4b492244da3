section Uc21cls
/-! the class, strongly: classes of places (printed by wip/p20/genT7.py) -/
def RW1 (h : AH) (R N : Nat) (f : Nat → Int32) : Prop := ∃ row : List Int32, h R = some (107, row.map Value.int) ∧ row.length = N ∧ ∀ i, i < N → row[i]? = some (f i)
def up1 (f : Nat → Int32) (i : Nat) (v : Int32) : Nat → Int32 := fun j => if j = i then v else f j
theorem RW1.set {h : AH} {R N : Nat} {f : Nat → Int32} (H : RW1 h R N f) {row : List Int32} (hr : h R = some (107, row.map Value.int)) {x : Nat} (hx : x < N) (v : Int32) : RW1 (hup h R (107, (row.set x v).map Value.int)) R N (up1 f x v) := by
  obtain ⟨row2, r1, r2, r3⟩ := H
  have e : row2 = row := by
    rw [r1] at hr
    exact (List.map_inj_right (fun a b z => by cases z; rfl)).mp (Prod.mk.inj (Option.some.inj hr)).2
  subst e
  refine ⟨_, hup_self _ _ _, by rw [List.length_set]; exact r2, fun n hn => ?_⟩
  unfold up1
  by_cases en : n = x
  · subst en
    rw [List.getElem?_set_self (by omega), if_pos rfl]
  · rw [List.getElem?_set_ne (Ne.symm en), if_neg en]
    exact r3 n hn
theorem RW1.out {h : AH} {R N : Nat} {f : Nat → Int32} (H : RW1 h R N f) {a : Nat} (ha : a ≠ R) (c : AC) : RW1 (hup h a c) R N f := by
  obtain ⟨row, r1, r2⟩ := H
  exact ⟨row, by rw [hup_ne _ _ (Ne.symm ha)]; exact r1, r2⟩
theorem RW1.congr {h : AH} {R N : Nat} {f g : Nat → Int32} (H : RW1 h R N f) (e : ∀ i, i < N → f i = g i) : RW1 h R N g := by
  obtain ⟨row, r1, r2, r3⟩ := H
  exact ⟨row, r1, r2, fun i hi => by rw [r3 i hi, e i hi]⟩
/-- the cells that classes write to -/
def LCl (P Q : Nat → Nat) : List Nat := [P 14, Q 61, Q 62, Q 63, Q 66, Q 67]
theorem LCl_p (P Q : Nat → Nat) : P 14 ∈ LCl P Q ∧ Q 66 ∈ LCl P Q ∧ Q 67 ∈ LCl P Q := by unfold LCl; simp
theorem LCl_q (P Q : Nat → Nat) : Q 61 ∈ LCl P Q ∧ Q 62 ∈ LCl P Q ∧ Q 63 ∈ LCl P Q := by unfold LCl; simp
/-- the classes' object: the row of the classes, of the heads, of what names stand for, the pairs -/
def CTG (B Q P : Nat → Nat) (h : AH) (F : Nat → TC) (X : List Nat) (f1 f2 f3 : Nat → Int32) (ps : PL2) : Prop :=
  TS B Q h F ∧ TN (F 51) X ∧ h (P 5) = some (3, [.ref (B 51), .ref (Q 61), .ref (Q 62), .ref (Q 63), .ref (P 14)]) ∧ RW1 h (Q 61) 32 f1 ∧ RW1 h (Q 62) 32 f2 ∧ RW1 h (Q 63) 8 f3 ∧ PRS h (P 14) (Q 66) (Q 67) ps
abbrev nK (k : Nat → Nat) : Nat → Int32 := fun i => nI (k i)
abbrev pK (k : Nat → Option Nat) : Nat → Int32 := fun i => pI (k i)
section CTs
variable {B Q P : Nat → Nat} {h h' : AH} {F : Nat → TC} {X : List Nat} {f1 f2 f3 : Nat → Int32} {ps qs : PL2}
theorem Yne {B Q : Nat → Nat} (Y : LYO B Q) {i j : Nat} (hi : i < 70) (hj : j < 70) (h : i ≠ j) : Q i ≠ Q j := fun z => h (Y.2 _ _ hi hj z)
theorem CTG.s1 (Y : LYO B Q) (T : CTG B Q P h F X f1 f2 f3 ps) {row : List Int32} (hr : h (Q 61) = some (107, row.map Value.int)) {x : Nat} (hx : x < 32) (v : Int32) : CTG B Q P (hup h (Q 61) (107, (row.set x v).map Value.int)) F X (up1 f1 x v) f2 f3 ps := by
  obtain ⟨t1, t2, t3, t4, t5, t6, t7⟩ := T
  exact ⟨t1.outQ Y (by decide) (by decide) hr _, t2, by rw [hup_ne _ _ (k_ne t3 hr (by decide))]; exact t3, t4.set hr hx v, t5.out (Yne Y (by decide) (by decide) (by decide)) _, t6.out (Yne Y (by decide) (by decide) (by decide)) _, t7.out (k_ne hr t7.2.2.1 (by decide)) (Yne Y (by decide) (by decide) (by decide)) (Yne Y (by decide) (by decide) (by decide)) _⟩
theorem CTG.s2 (Y : LYO B Q) (T : CTG B Q P h F X f1 f2 f3 ps) {row : List Int32} (hr : h (Q 62) = some (107, row.map Value.int)) {x : Nat} (hx : x < 32) (v : Int32) : CTG B Q P (hup h (Q 62) (107, (row.set x v).map Value.int)) F X f1 (up1 f2 x v) f3 ps := by
  obtain ⟨t1, t2, t3, t4, t5, t6, t7⟩ := T
  exact ⟨t1.outQ Y (by decide) (by decide) hr _, t2, by rw [hup_ne _ _ (k_ne t3 hr (by decide))]; exact t3, t4.out (Yne Y (by decide) (by decide) (by decide)) _, t5.set hr hx v, t6.out (Yne Y (by decide) (by decide) (by decide)) _, t7.out (k_ne hr t7.2.2.1 (by decide)) (Yne Y (by decide) (by decide) (by decide)) (Yne Y (by decide) (by decide) (by decide)) _⟩
theorem CTG.s3 (Y : LYO B Q) (T : CTG B Q P h F X f1 f2 f3 ps) {row : List Int32} (hr : h (Q 63) = some (107, row.map Value.int)) {x : Nat} (hx : x < 8) (v : Int32) : CTG B Q P (hup h (Q 63) (107, (row.set x v).map Value.int)) F X f1 f2 (up1 f3 x v) ps := by
  obtain ⟨t1, t2, t3, t4, t5, t6, t7⟩ := T
  exact ⟨t1.outQ Y (by decide) (by decide) hr _, t2, by rw [hup_ne _ _ (k_ne t3 hr (by decide))]; exact t3, t4.out (Yne Y (by decide) (by decide) (by decide)) _, t5.out (Yne Y (by decide) (by decide) (by decide)) _, t6.set hr hx v, t7.out (k_ne hr t7.2.2.1 (by decide)) (Yne Y (by decide) (by decide) (by decide)) (Yne Y (by decide) (by decide) (by decide)) _⟩
theorem CTG.pr (Y : LYO B Q) (T : CTG B Q P h F X f1 f2 f3 ps) (H : PRS h' (P 14) (Q 66) (Q 67) qs) (f : FrP (P 14) (Q 66) (Q 67) h h') : CTG B Q P h' F X f1 f2 f3 qs := by
  obtain ⟨t1, t2, t3, t4, t5, t6, t7⟩ := T
  have g3 := t7.2.2.1
  have kp : ∀ {j N : Nat} {g : Nat → Int32}, 60 ≤ j → j < 70 → j ≠ 66 → j ≠ 67 → RW1 h (Q j) N g → RW1 h' (Q j) N g := fun {j N g} h1 h2 n1 n2 ⟨row, r1, r2⟩ => ⟨row, by rw [f (Q j) (k_ne r1 g3 (by decide)) (Yne Y h2 (by decide) n1) (Yne Y h2 (by decide) n2)]; exact r1, r2⟩
  exact ⟨t1.frPw f t7.w (hAq Y (by decide) (by decide) (by decide) (by decide)), t2, f.keep t7.w t3 (by decide) (by decide), kp (by decide) (by decide) (by decide) (by decide) t4, kp (by decide) (by decide) (by decide) (by decide) t5, kp (by decide) (by decide) (by decide) (by decide) t6, H⟩
theorem CTG.congr {g1 g2 : Nat → Int32} (T : CTG B Q P h F X f1 f2 f3 ps) (e1 : ∀ i, i < 32 → f1 i = g1 i) (e2 : ∀ i, i < 32 → f2 i = g2 i) : CTG B Q P h F X g1 g2 f3 ps := by
  obtain ⟨t1, t2, t3, t4, t5, t6, t7⟩ := T
  exact ⟨t1, t2, t3, t4.congr e1, t5.congr e2, t6, t7⟩
end CTs
theorem nI_32' : (Int8.ofInt 32).toInt32 = nI 32 := by decide +kernel
section LC
variable {p : Program} {la : Launch} {e : Env} {R : Room} {s : State} {m : MethodId} {args : Array Value} {below : List Frame} {meth : Method} {c : Code} {Q : State → Prop}
variable {D : va_G} {cA : Nat → ClassId} {B0 pa nL : Nat} {cc : ByteArray} {own : String} {pc k n : Nat} {l : List (Nat × Value)} {r : List Value} {h : AH}
theorem lcmp_ok (X : CX p s m args c D cA B0 nL cc own) {x y : Int64} (hd : decode cc pc = .ok (.lcmp, 1))
    (kk : WS p la e R s m args below meth c Q D cA B0 nL (pc + 1) l (.int (lg_cmp x y) :: r) h k n) : WS p la e R s m args below meth c Q D cA B0 nL pc l (.long y :: .long x :: r) h k n := by
  intro H locs ls hH hls
  exact W.lcmp X.1 X.2.1 hd (kk H locs ls hH hls)
theorem mmin7_ok (X : CX p s m args c D cA B0 nL cc own) {idx x : Nat} (hx : x ≤ 32) (hl : Cond.methodLink own idx yJ9_min_7cf53 ∈ WT) (hd : decode cc pc = .ok (.invokestatic idx, 3)) (hfr : 1 ≤ R.frames) (hlo : (r.map fun v => v.category).sum + 13 ≤ R.locals) (h1 : k ≤ R.cells) (h2 : n ≤ R.slots)
    (kk : WS p la e R s m args below meth c Q D cA B0 nL (pc + 3) l (vI x :: r) h k n) : WS p la e R s m args below meth c Q D cA B0 nL pc l (.int (nI 32) :: vI x :: r) h k n := by
  intro H locs ls hH hls
  refine va_mmin X.1 X.2.1 (X.2.2.1.trans hls.1.symm) X.2.2.2.1 (X.2.2.2.2.1 _ hl) (X.2.2.2.2.1 _ lsJ9_min_7cf53) (X.2.2.2.2.1 _ liJ9) (X.2.2.2.2.1 _ lcJ9_min_7cf53) hfr hlo h1 h2 hd ?_
  rw [if_neg (fun z => by have := (nI_ltI (by omega) (by omega)).mp z; omega)]
  exact kk H locs ls hH hls
end LC
def nL (m : Nat) : Int64 := Int64.ofNat m
theorem nL_or (a b : Nat) : nL a ||| nL b = nL (a ||| b) := by
  apply Int64.toBitVec_inj.mp
  show BitVec.ofNat 64 a ||| BitVec.ofNat 64 b = BitVec.ofNat 64 (a ||| b)
  apply BitVec.eq_of_getLsbD_eq
  intro i hi
  rw [BitVec.getLsbD_or, BitVec.getLsbD_ofNat, BitVec.getLsbD_ofNat, BitVec.getLsbD_ofNat, Nat.testBit_or]
  simp [hi]
theorem nL_shl : ∀ k : Nat, k < 32 → nL 1 <<< ((nI k).toInt64 &&& 63) = nL (2 ^ k) := by decide +kernel
theorem nL_sh1 : ∀ k : Nat, k < 32 → (((nI k).toInt64 &&& 63).toBitVec.smod 64).toNat = k := by decide +kernel
theorem lbit {m k : Nat} (hk : k < 32) : (nL m >>> ((nI k).toInt64 &&& 63)) &&& nL 1 = nL (m >>> k % 2) := by
  apply Int64.toBitVec_inj.mp
  rw [Int64.toBitVec_and, Int64.toBitVec_shiftRight]
  apply BitVec.eq_of_getLsbD_eq
  intro i hi
  rw [BitVec.getLsbD_and, BitVec.sshiftRight', nL_sh1 k hk, BitVec.getLsbD_sshiftRight]
  show _ = (BitVec.ofNat 64 (m >>> k % 2)).getLsbD i
  have e1 : (nL m).toBitVec = BitVec.ofNat 64 m := rfl
  have e2 : (nL 1).toBitVec = BitVec.ofNat 64 1 := rfl
  rw [e1, e2, BitVec.getLsbD_ofNat, BitVec.getLsbD_ofNat, BitVec.getLsbD_ofNat]
  have hb : (m >>> k % 2).testBit i = (decide (i = 0) && m.testBit k) := by
    have h2 := bt_tb m k
    unfold bt at h2
    rcases Nat.mod_two_eq_zero_or_one (m >>> k) with z | z
    · rw [z, Nat.zero_testBit]
      have : m.testBit k = false := by
        cases h3 : m.testBit k with
        | false => rfl
        | true => rw [h2.mpr h3] at z; cases z
      rw [this, Bool.and_false]
    · rw [z, h2.mp z, Bool.and_true, show (1 : Nat) = 2 ^ 0 from rfl, Nat.testBit_two_pow]
      by_cases h0 : i = 0
      · subst h0; rfl
      · rw [decide_eq_false h0, decide_eq_false (Ne.symm h0)]
  have h1 : (1 : Nat).testBit i = decide (i = 0) := by
    rw [show (1 : Nat) = 2 ^ 0 from rfl, Nat.testBit_two_pow]
    by_cases h0 : i = 0
    · subst h0; rfl
    · rw [decide_eq_false h0, decide_eq_false (Ne.symm h0)]
  rw [hb, h1]
  by_cases h0 : i = 0
  · subst h0
    rw [Nat.add_zero, if_pos (by omega)]
    simp
    omega
  · rw [decide_eq_false h0]
    simp
section S21
variable {la : Launch} {D : va_G} {cA : Nat → ClassId} {B0 pa : Nat} {B Q P : Nat → Nat} {F : Nat → TC} {X1 : List Nat} {f1 f2 f3 : Nat → Int32} {ps : PL2}
set_option maxHeartbeats 4000000 in
theorem s1_classAt (h : AH) (T : CTG B Q P h F X1 f1 f2 f3 ps) {z : Nat} (hz : z < 32) : CT la D cA B0 pa yX1_classAt cX1_classAt 2 (some .int) (rmD 0 0 0) [.ref (P 5), vI z] h (RP (.int (f1 z)) h) := by
  refine CT_of (by decide +kernel) (Nat.le_of_ble_eq_true rfl) ?_
  intro p e s m args below meth c X E hr hlk hnm
  have dk : ∀ {pc : Nat} {q : Instr × Nat}, lkd DX1_classAt pc = some q → decode cX1_classAt pc = .ok q := lkd_ok DX1_classAt_ok
  obtain ⟨t1, t2, t3, t4, t5, t6, t7⟩ := T
  obtain ⟨row, r1, r2, r3⟩ := t4
  refine fst1_ok X (dk rfl) rfl ?_
  refine br_ok X (dk rfl) rfl (show ((1 : Nat) : Int) + 18 = ((19 : Nat) : Int) from rfl) (fun q => absurd q (nI_pos (by omega))) (fun _ => ?_)
  iterate 2 refine fst1_ok X (dk rfl) rfl ?_
  refine br_ok X (dk rfl) rfl (show ((7 : Nat) : Int) + 12 = ((19 : Nat) : Int) from rfl) (fun q => absurd q (by rw [nI_32']; exact nI_ge (by omega) (by omega))) (fun _ => ?_)
  refine fst1_ok X (dk rfl) rfl ?_
  refine getf_ok X flX1_20 (dk rfl) t3 rfl ?_
  refine fst1_ok X (dk rfl) rfl ?_
  refine ald7v_ok X (dk rfl) r1 (nI_pos (by omega)) (by rw [nI_clamp (by omega)]; exact r3 z hz) ?_
  refine br_ok X (dk rfl) rfl (show ((16 : Nat) : Int) + 4 = ((20 : Nat) : Int) from rfl) (fun _ => ?_) (fun q => absurd trivial q)
  exact reti_ok X hr hlk rfl (dk rfl) (⟨rfl, rfl⟩) (Nat.le_of_ble_eq_true rfl) (Nat.le_of_ble_eq_true rfl)
set_option maxHeartbeats 4000000 in
theorem s1_classAtN (h : AH) (T : CTG B Q P h F X1 f1 f2 f3 ps) : CT la D cA B0 pa yX1_classAt cX1_classAt 2 (some .int) (rmD 0 0 0) [.ref (P 5), .int (Int32.ofInt (-1))] h (RP (.int (Int32.ofInt (-1))) h) := by
  refine CT_of (by decide +kernel) (Nat.le_of_ble_eq_true rfl) ?_
  intro p e s m args below meth c X E hr hlk hnm
  have dk : ∀ {pc : Nat} {q : Instr × Nat}, lkd DX1_classAt pc = some q → decode cX1_classAt pc = .ok q := lkd_ok DX1_classAt_ok
  refine fst1_ok X (dk rfl) rfl ?_
  refine br_ok X (dk rfl) rfl (show ((1 : Nat) : Int) + 18 = ((19 : Nat) : Int) from rfl) (fun _ => ?_) (fun q => absurd (by decide +kernel) q)
  refine fst1_ok X (dk rfl) rfl ?_
  exact reti_ok X hr hlk rfl (dk rfl) (⟨rfl, rfl⟩) (Nat.le_of_ble_eq_true rfl) (Nat.le_of_ble_eq_true rfl)
set_option maxHeartbeats 4000000 in
theorem s1_headAt (h : AH) (T : CTG B Q P h F X1 f1 f2 f3 ps) {z : Nat} (hz : z < 32) : CT la D cA B0 pa yX1_headAt cX1_headAt 2 (some .int) (rmD 0 0 0) [.ref (P 5), vI z] h (RP (.int (f2 z)) h) := by
  refine CT_of (by decide +kernel) (Nat.le_of_ble_eq_true rfl) ?_
  intro p e s m args below meth c X E hr hlk hnm
  have dk : ∀ {pc : Nat} {q : Instr × Nat}, lkd DX1_headAt pc = some q → decode cX1_headAt pc = .ok q := lkd_ok DX1_headAt_ok
  obtain ⟨t1, t2, t3, t4, t5, t6, t7⟩ := T
  obtain ⟨row, r1, r2, r3⟩ := t5
  refine fst1_ok X (dk rfl) rfl ?_
  refine br_ok X (dk rfl) rfl (show ((1 : Nat) : Int) + 18 = ((19 : Nat) : Int) from rfl) (fun q => absurd q (nI_pos (by omega))) (fun _ => ?_)
  iterate 2 refine fst1_ok X (dk rfl) rfl ?_
  refine br_ok X (dk rfl) rfl (show ((7 : Nat) : Int) + 12 = ((19 : Nat) : Int) from rfl) (fun q => absurd q (by rw [nI_32']; exact nI_ge (by omega) (by omega))) (fun _ => ?_)
  refine fst1_ok X (dk rfl) rfl ?_
  refine getf_ok X flX1_24 (dk rfl) t3 rfl ?_
  refine fst1_ok X (dk rfl) rfl ?_
  refine ald7v_ok X (dk rfl) r1 (nI_pos (by omega)) (by rw [nI_clamp (by omega)]; exact r3 z hz) ?_
  refine br_ok X (dk rfl) rfl (show ((16 : Nat) : Int) + 4 = ((20 : Nat) : Int) from rfl) (fun _ => ?_) (fun q => absurd trivial q)
  exact reti_ok X hr hlk rfl (dk rfl) (⟨rfl, rfl⟩) (Nat.le_of_ble_eq_true rfl) (Nat.le_of_ble_eq_true rfl)
set_option maxHeartbeats 4000000 in
theorem s1_headAtN (h : AH) (T : CTG B Q P h F X1 f1 f2 f3 ps) : CT la D cA B0 pa yX1_headAt cX1_headAt 2 (some .int) (rmD 0 0 0) [.ref (P 5), .int (Int32.ofInt (-1))] h (RP (.int (Int32.ofInt (-1))) h) := by
  refine CT_of (by decide +kernel) (Nat.le_of_ble_eq_true rfl) ?_
  intro p e s m args below meth c X E hr hlk hnm
  have dk : ∀ {pc : Nat} {q : Instr × Nat}, lkd DX1_headAt pc = some q → decode cX1_headAt pc = .ok q := lkd_ok DX1_headAt_ok
  refine fst1_ok X (dk rfl) rfl ?_
  refine br_ok X (dk rfl) rfl (show ((1 : Nat) : Int) + 18 = ((19 : Nat) : Int) from rfl) (fun _ => ?_) (fun q => absurd (by decide +kernel) q)
  refine fst1_ok X (dk rfl) rfl ?_
  exact reti_ok X hr hlk rfl (dk rfl) (⟨rfl, rfl⟩) (Nat.le_of_ble_eq_true rfl) (Nat.le_of_ble_eq_true rfl)
set_option maxHeartbeats 32000000 in
theorem s1_join (h : AH) (Y : LYO B Q) {k : Nat → Nat} {hd : Nat → Option Nat} (T : CTG B Q P h F X1 (nK k) (pK hd) f3 ps) (hX : BX X1) {zl zr : Nat} (hzl : zl < 32) (hzr : zr < 32) (hkb : ∀ i, i < 32 → k i < 32) (hhl : ∀ a, hd zl = some a → a < X1.length) (hhr : ∀ a, hd zr = some a → a < X1.length) (hl3 : ps.length + 3 ≤ 128) : CT la D cA B0 pa yX1_join cX1_join 6 (some .boolean) (rmD 3 0 0) [.ref (P 5), vI zl, vI zr] h (fun v h' => (∃ a b, hd zl = some a ∧ hd zr = some b ∧ gl X1 a ≠ gl X1 b ∧ v = some (.int (bI false)) ∧ h' = h) ∨ (v = some (.int (bI true)) ∧ (∀ a b, hd zl = some a → hd zr = some b → gl X1 a = gl X1 b) ∧ CTG B Q P h' F X1 (nK (mgK k zl zr)) (pK (fun y => if y = zl ∧ hd zl = none then hd zr else hd y)) f3 (ps ++ (match hd zl, hd zr with | some a, some b => (kdL X1 a b (ga X1 a) 0).reverse | _, _ => [])) ∧ FrU B Q (LCl P Q) h h')) := by
  refine CT_of (by decide +kernel) (Nat.le_of_ble_eq_true rfl) ?_
  intro p e s m args below meth c X E hr hlk hnm
  have dk : ∀ {pc : Nat} {q : Instr × Nat}, lkd DX1_join pc = some q → decode cX1_join pc = .ok q := lkd_ok DX1_join_ok
  have hX32 := hX.2.2
  obtain ⟨t1, t2, t3, t4, t5, t6, t7⟩ := id T
  have hL := LCl_q P Q
  have hLp := LCl_p P Q
  have tail : ∀ (h1 : AH), (∀ a b, hd zl = some a → hd zr = some b → gl X1 a = gl X1 b) → CTG B Q P h1 F X1 (nK (mgK k zl zr)) (pK hd) f3 (ps ++ (match hd zl, hd zr with | some a, some b => (kdL X1 a b (ga X1 a) 0).reverse | _, _ => [])) → FrU B Q (LCl P Q) h h1 → ∀ l : List (Nat × Value), lsel l [4, 3, 2, 1, 0] = [(4, .int (pI (hd zr))), (3, .int (pI (hd zl))), (2, vI zr), (1, vI zl), (0, .ref (P 5))] → WR p la e (rmD 3 0 0) s m args below meth c D cA B0 6 (fun v h' => (∃ a b, hd zl = some a ∧ hd zr = some b ∧ gl X1 a ≠ gl X1 b ∧ v = some (.int (bI false)) ∧ h' = h) ∨ (v = some (.int (bI true)) ∧ (∀ a b, hd zl = some a → hd zr = some b → gl X1 a = gl X1 b) ∧ CTG B Q P h' F X1 (nK (mgK k zl zr)) (pK (fun y => if y = zl ∧ hd zl = none then hd zr else hd y)) f3 (ps ++ (match hd zl, hd zr with | some a, some b => (kdL X1 a b (ga X1 a) 0).reverse | _, _ => [])) ∧ FrU B Q (LCl P Q) h h')) 95 l [] h1 0 0 := by
    intro h1 hgg T1 f1 l hl
    obtain ⟨g1, g2, g3, g4, ⟨row, r1, r2, r3⟩, g6, g7⟩ := id T1
    refine WS.sel [4, 3, 2, 1, 0] hl ?_
    refine fst1_ok X (dk rfl) rfl ?_
    refine br_ok X (dk rfl) rfl (show ((96 : Nat) : Int) + 22 = ((118 : Nat) : Int) from rfl) (fun q => absurd q (nI_pos (by omega))) (fun _ => ?_)
    iterate 2 refine fst1_ok X (dk rfl) rfl ?_
    refine br_ok X (dk rfl) rfl (show ((102 : Nat) : Int) + 16 = ((118 : Nat) : Int) from rfl) (fun q => absurd q (by rw [nI_32']; exact nI_ge (by omega) (by omega))) (fun _ => ?_)
    iterate 2 refine fst1_ok X (dk rfl) rfl ?_
    have ecs : hd zl = none ∨ ∃ a, hd zl = some a := by cases hd zl with | none => exact Or.inl rfl | some a => exact Or.inr ⟨a, rfl⟩
    rcases ecs with el | ⟨a, el⟩
    · refine br_ok X (dk rfl) rfl (show ((107 : Nat) : Int) + 11 = ((118 : Nat) : Int) from rfl) (fun q => absurd (show pI (hd zl) = Int32.ofInt (-1) by rw [el]; rfl) q) (fun _ => ?_)
      refine fst1_ok X (dk rfl) rfl ?_
      refine getf_ok X flX1_24 (dk rfl) g3 rfl ?_
      iterate 2 refine fst1_ok X (dk rfl) rfl ?_
      refine ast7_ok X (dk rfl) r1 (nI_pos (by omega)) (by rw [nI_clamp (by omega)]; omega) ?_
      rw [nI_clamp (by omega)]
      have T2 := T1.s2 Y r1 (x := zl) (by omega) (pI (hd zr))
      have T3 := T2.congr (g1 := nK (mgK k zl zr)) (g2 := pK (fun y => if y = zl ∧ hd zl = none then hd zr else hd y)) (fun i _ => rfl) (fun i _ => by
        unfold up1
        show (if i = zl then pI (hd zr) else pI (hd i)) = pI (if i = zl ∧ hd zl = none then hd zr else hd i)
        by_cases ei : i = zl
        · rw [if_pos ei, if_pos ⟨ei, el⟩]
        · rw [if_neg ei, if_neg (fun z => ei z.1)])
      refine fst1_ok X (dk rfl) rfl ?_
      exact reti_ok X hr hlk (bI_n true) (dk rfl) (Or.inr ⟨rfl, hgg, T3, f1.set hL.2.1 _⟩) (Nat.le_of_ble_eq_true rfl) (Nat.le_of_ble_eq_true rfl)
    · have ha := hhl a el
      refine br_ok X (dk rfl) rfl (show ((107 : Nat) : Int) + 11 = ((118 : Nat) : Int) from rfl) (fun _ => ?_) (fun q => absurd (show pI (hd zl) ≠ Int32.ofInt (-1) by rw [el]; exact nI_m1 (by omega)) q)
      refine fst1_ok X (dk rfl) rfl ?_
      have T3 := T1.congr (g1 := nK (mgK k zl zr)) (g2 := pK (fun y => if y = zl ∧ hd zl = none then hd zr else hd y)) (fun i _ => rfl) (fun i _ => by
        show pI (hd i) = pI (if i = zl ∧ hd zl = none then hd zr else hd i)
        rw [if_neg (fun z => by rw [el] at z; cases z.2)])
      exact reti_ok X hr hlk (bI_n true) (dk rfl) (Or.inr ⟨rfl, hgg, T3, f1⟩) (Nat.le_of_ble_eq_true rfl) (Nat.le_of_ble_eq_true rfl)
  have mid : ∀ (h0 : AH), (∀ a b, hd zl = some a → hd zr = some b → gl X1 a = gl X1 b) → CTG B Q P h0 F X1 (nK k) (pK hd) f3 (ps ++ (match hd zl, hd zr with | some a, some b => (kdL X1 a b (ga X1 a) 0).reverse | _, _ => [])) → FrU B Q (LCl P Q) h h0 → ∀ l : List (Nat × Value), lsel l [4, 3, 2, 1, 0] = [(4, .int (pI (hd zr))), (3, .int (pI (hd zl))), (2, vI zr), (1, vI zl), (0, .ref (P 5))] → WR p la e (rmD 3 0 0) s m args below meth c D cA B0 6 (fun v h' => (∃ a b, hd zl = some a ∧ hd zr = some b ∧ gl X1 a ≠ gl X1 b ∧ v = some (.int (bI false)) ∧ h' = h) ∨ (v = some (.int (bI true)) ∧ (∀ a b, hd zl = some a → hd zr = some b → gl X1 a = gl X1 b) ∧ CTG B Q P h' F X1 (nK (mgK k zl zr)) (pK (fun y => if y = zl ∧ hd zl = none then hd zr else hd y)) f3 (ps ++ (match hd zl, hd zr with | some a, some b => (kdL X1 a b (ga X1 a) 0).reverse | _, _ => [])) ∧ FrU B Q (LCl P Q) h h')) 60 l [] h0 0 0 := by
    intro h0 hgg T0 f0 l hl
    have loop : ∀ (u i : Nat) (h1 : AH), u + i = 32 → CTG B Q P h1 F X1 (fun j => if j < i then nI (mgK k zl zr j) else nI (k j)) (pK hd) f3 (ps ++ (match hd zl, hd zr with | some a, some b => (kdL X1 a b (ga X1 a) 0).reverse | _, _ => [])) → FrU B Q (LCl P Q) h h1 → ∀ l : List (Nat × Value), lsel l [5, 4, 3, 2, 1, 0] = [(5, vI i), (4, .int (pI (hd zr))), (3, .int (pI (hd zl))), (2, vI zr), (1, vI zl), (0, .ref (P 5))] → WR p la e (rmD 3 0 0) s m args below meth c D cA B0 6 (fun v h' => (∃ a b, hd zl = some a ∧ hd zr = some b ∧ gl X1 a ≠ gl X1 b ∧ v = some (.int (bI false)) ∧ h' = h) ∨ (v = some (.int (bI true)) ∧ (∀ a b, hd zl = some a → hd zr = some b → gl X1 a = gl X1 b) ∧ CTG B Q P h' F X1 (nK (mgK k zl zr)) (pK (fun y => if y = zl ∧ hd zl = none then hd zr else hd y)) f3 (ps ++ (match hd zl, hd zr with | some a, some b => (kdL X1 a b (ga X1 a) 0).reverse | _, _ => [])) ∧ FrU B Q (LCl P Q) h h')) 63 l [] h1 0 0 := by
      intro u
      induction u with
      | zero =>
        intro i h1 hi T1 f1 l hl
        have hi2 : i = 32 := by omega
        subst hi2
        refine WS.sel [5, 4, 3, 2, 1, 0] hl ?_
        iterate 2 refine fst1_ok X (dk rfl) rfl ?_
        refine br_ok X (dk rfl) rfl (show ((67 : Nat) : Int) + 28 = ((95 : Nat) : Int) from rfl) (fun _ => ?_) (fun q => absurd (by rw [nI_32']; exact Int32.le_refl _) q)
        exact tail h1 hgg (T1.congr (g1 := nK (mgK k zl zr)) (g2 := pK hd) (fun j hj => if_pos hj) (fun j _ => rfl)) f1 _ rfl
      | succ u ih =>
        intro i h1 hi T1 f1 l hl
        obtain ⟨g1, g2, g3, ⟨row, r1, r2, r3⟩, g5, g6, g7⟩ := id T1
        have f3' : Value.int (nI i + Int32.ofInt 1) = vI (i + 1) := congrArg Value.int (by rw [nI_1', nI_add])
        have hki := hkb i (by omega)
        refine WS.sel [5, 4, 3, 2, 1, 0] hl ?_
        iterate 2 refine fst1_ok X (dk rfl) rfl ?_
        refine br_ok X (dk rfl) rfl (show ((67 : Nat) : Int) + 28 = ((95 : Nat) : Int) from rfl) (fun q => absurd q (by rw [nI_32']; exact nI_ge (by omega) (by omega))) (fun _ => ?_)
        refine fst1_ok X (dk rfl) rfl ?_
        refine getf_ok X flX1_20 (dk rfl) g3 rfl ?_
        refine fst1_ok X (dk rfl) rfl ?_
        refine ald7v_ok X (dk rfl) r1 (nI_pos (by omega)) (by rw [nI_clamp (by omega)]; exact r3 i (by omega)) ?_
        rw [show (fun j => if j < i then nI (mgK k zl zr j) else nI (k j)) i = nI (k i) from if_neg (Nat.lt_irrefl i)]
        refine fst1_ok X (dk rfl) rfl ?_
        by_cases ek : k i = zr
        · refine br_ok X (dk rfl) rfl (show ((78 : Nat) : Int) + 11 = ((89 : Nat) : Int) from rfl) (fun q => absurd (by rw [ek]) q) (fun _ => ?_)
          refine fst1_ok X (dk rfl) rfl ?_
          refine getf_ok X flX1_20 (dk rfl) g3 rfl ?_
          iterate 2 refine fst1_ok X (dk rfl) rfl ?_
          refine ast7_ok X (dk rfl) r1 (nI_pos (by omega)) (by rw [nI_clamp (by omega)]; omega) ?_
          rw [nI_clamp (by omega)]
          have T2 := T1.s1 Y r1 (x := i) (by omega) (nI zl)
          have T3 := T2.congr (g1 := fun j => if j < i + 1 then nI (mgK k zl zr j) else nI (k j)) (g2 := pK hd) (fun j hj => by
            unfold up1
            dsimp only
            by_cases ej : j = i
            · subst ej
              rw [if_pos rfl, if_pos (by omega)]
              unfold mgK
              rw [if_pos ek]
            · rw [if_neg ej]
              by_cases c : j < i
              · rw [if_pos c, if_pos (by omega)]
              · rw [if_neg c, if_neg (by omega)]) (fun j _ => rfl)
          refine fst1_ok X (dk rfl) rfl ?_
          refine br_ok X (dk rfl) rfl (show ((92 : Nat) : Int) + (-29) = ((63 : Nat) : Int) from rfl) (fun _ => ?_) (fun q => absurd trivial q)
          refine WS.sel (l' := [(5, vI (i + 1)), (4, .int (pI (hd zr))), (3, .int (pI (hd zl))), (2, vI zr), (1, vI zl), (0, .ref (P 5))]) [5, 4, 3, 2, 1, 0] (by rw [← f3']; rfl) ?_
          exact ih (i + 1) _ (by omega) T3 (f1.set hL.1 _) _ rfl
        · refine br_ok X (dk rfl) rfl (show ((78 : Nat) : Int) + 11 = ((89 : Nat) : Int) from rfl) (fun _ => ?_) (fun q => absurd (fun z => ek (nI_inj (by omega) (by omega) z)) q)
          have T3 := T1.congr (g1 := fun j => if j < i + 1 then nI (mgK k zl zr j) else nI (k j)) (g2 := pK hd) (fun j hj => by
            show (if j < i then nI (mgK k zl zr j) else nI (k j)) = (if j < i + 1 then nI (mgK k zl zr j) else nI (k j))
            by_cases ej : j = i
            · subst ej
              rw [if_neg (Nat.lt_irrefl j), if_pos (by omega)]
              unfold mgK
              rw [if_neg ek]
            · by_cases c : j < i
              · rw [if_pos c, if_pos (by omega)]
              · rw [if_neg c, if_neg (by omega)]) (fun j _ => rfl)
          refine fst1_ok X (dk rfl) rfl ?_
          refine br_ok X (dk rfl) rfl (show ((92 : Nat) : Int) + (-29) = ((63 : Nat) : Int) from rfl) (fun _ => ?_) (fun q => absurd trivial q)
          refine WS.sel (l' := [(5, vI (i + 1)), (4, .int (pI (hd zr))), (3, .int (pI (hd zl))), (2, vI zr), (1, vI zl), (0, .ref (P 5))]) [5, 4, 3, 2, 1, 0] (by rw [← f3']; rfl) ?_
          exact ih (i + 1) _ (by omega) T3 f1 _ rfl
    refine WS.sel [4, 3, 2, 1, 0] hl ?_
    iterate 2 refine fst1_ok X (dk rfl) rfl ?_
    exact loop 32 0 h0 rfl (T0.congr (fun j _ => (if_neg (Nat.not_lt_zero j)).symm) (fun j _ => rfl)) f0 _ rfl
  iterate 2 refine fst1_ok X (dk rfl) rfl ?_
  refine callVR_ok (ci := 3) (T := TX1) (N := 5) (av := [vI zl]) (r := []) X E (s1_headAt h T (z := zl) hzl) lkX1_headAt mlX1_94 lmX1_headAt lpX1_headAt ⟨Nat.le_of_ble_eq_true rfl, Nat.le_of_ble_eq_true rfl⟩ ⟨Nat.le_of_ble_eq_true rfl, Nat.le_of_ble_eq_true rfl⟩ rfl ⟨_, t3⟩ (Nat.le_of_ble_eq_true rfl) (dk rfl) ?_
  rintro _ rfl
  iterate 3 refine fst1_ok X (dk rfl) rfl ?_
  refine callVR_ok (ci := 3) (T := TX1) (N := 5) (av := [vI zr]) (r := []) X E (s1_headAt h T (z := zr) hzr) lkX1_headAt mlX1_94 lmX1_headAt lpX1_headAt ⟨Nat.le_of_ble_eq_true rfl, Nat.le_of_ble_eq_true rfl⟩ ⟨Nat.le_of_ble_eq_true rfl, Nat.le_of_ble_eq_true rfl⟩ rfl ⟨_, t3⟩ (Nat.le_of_ble_eq_true rfl) (dk rfl) ?_
  rintro _ rfl
  iterate 3 refine fst1_ok X (dk rfl) rfl ?_
  have ecs : ∀ z, hd z = none ∨ ∃ a, hd z = some a := fun z => by cases hd z with | none => exact Or.inl rfl | some a => exact Or.inr ⟨a, rfl⟩
  rcases ecs zl with el | ⟨a, el⟩
  · refine br_ok X (dk rfl) rfl (show ((15 : Nat) : Int) + 45 = ((60 : Nat) : Int) from rfl) (fun _ => ?_) (fun q => absurd (show pI (hd zl) = Int32.ofInt (-1) by rw [el]; rfl) q)
    exact mid h (fun a b z => by rw [el] at z; cases z) (by rw [el]; dsimp only; rw [List.append_nil]; exact T) (FrU.rf h) _ rfl
  · have ha := hhl a el
    refine br_ok X (dk rfl) rfl (show ((15 : Nat) : Int) + 45 = ((60 : Nat) : Int) from rfl) (fun q => absurd q (show pI (hd zl) ≠ Int32.ofInt (-1) by rw [el]; exact nI_m1 (by omega))) (fun _ => ?_)
    iterate 2 refine fst1_ok X (dk rfl) rfl ?_
    rcases ecs zr with er | ⟨b, er⟩
    · refine br_ok X (dk rfl) rfl (show ((21 : Nat) : Int) + 39 = ((60 : Nat) : Int) from rfl) (fun _ => ?_) (fun q => absurd (show pI (hd zr) = Int32.ofInt (-1) by rw [er]; rfl) q)
      exact mid h (fun a b _ z => by rw [er] at z; cases z) (by rw [el, er]; dsimp only; rw [List.append_nil]; exact T) (FrU.rf h) _ rfl
    · have hb := hhr b er
      have hga := gl_get ha
      have hgb := gl_get hb
      have lta := (gl_ok hX ha).lt
      have ltb := (gl_ok hX hb).lt
      refine br_ok X (dk rfl) rfl (show ((21 : Nat) : Int) + 39 = ((60 : Nat) : Int) from rfl) (fun q => absurd q (show pI (hd zr) ≠ Int32.ofInt (-1) by rw [er]; exact nI_m1 (by omega))) (fun _ => ?_)
      rw [show pK hd zl = nI a by show pI (hd zl) = nI a; rw [el]; rfl, show pK hd zr = nI b by show pI (hd zr) = nI b; rw [er]; rfl]
      refine fst1_ok X (dk rfl) rfl ?_
      refine getf_ok X flX1_16 (dk rfl) t3 rfl ?_
      refine fst1_ok X (dk rfl) rfl ?_
      refine callVR_ok (ci := 7) (T := TX5) (N := 3) (av := [vI a]) (r := []) X E (s5_letterAt h t1 (i := 51) (by omega) (nI a)) lkX5_letterAt mlX1_45 lmX5_letterAt lpX5_letterAt ⟨Nat.le_of_ble_eq_true rfl, Nat.le_of_ble_eq_true rfl⟩ ⟨Nat.le_of_ble_eq_true rfl, Nat.le_of_ble_eq_true rfl⟩ rfl ⟨_, (t1 51 (by omega)).2.1⟩ (Nat.le_of_ble_eq_true rfl) (dk rfl) ?_
      rintro _ rfl
      rw [t2.lt hga (by omega)]
      refine fst1_ok X (dk rfl) rfl ?_
      refine getf_ok X flX1_16 (dk rfl) t3 rfl ?_
      refine fst1_ok X (dk rfl) rfl ?_
      refine callVR_ok (ci := 7) (T := TX5) (N := 3) (av := [vI b]) (r := [vI (gl X1 a)]) X E (s5_letterAt h t1 (i := 51) (by omega) (nI b)) lkX5_letterAt mlX1_45 lmX5_letterAt lpX5_letterAt ⟨Nat.le_of_ble_eq_true rfl, Nat.le_of_ble_eq_true rfl⟩ ⟨Nat.le_of_ble_eq_true rfl, Nat.le_of_ble_eq_true rfl⟩ rfl ⟨_, (t1 51 (by omega)).2.1⟩ (Nat.le_of_ble_eq_true rfl) (dk rfl) ?_
      rintro _ rfl
      rw [t2.lt hgb (by omega)]
      by_cases hg : gl X1 a = gl X1 b
      · refine br_ok X (dk rfl) rfl (show ((41 : Nat) : Int) + 5 = ((46 : Nat) : Int) from rfl) (fun _ => ?_) (fun q => absurd (by rw [hg]) q)
        refine fst1_ok X (dk rfl) rfl ?_
        refine getf_ok X flX1_33 (dk rfl) t3 rfl ?_
        refine fst1_ok X (dk rfl) rfl ?_
        refine getf_ok X flX1_16 (dk rfl) t3 rfl ?_
        iterate 2 refine fst1_ok X (dk rfl) rfl ?_
        have hga3 := ga_le hX ha
        refine callV_ok (ci := 4) (T := TX2) (N := 3) (av := [.ref (B 51), vI a, vI b]) (r := []) X E (s2_addParts h t7 (Yne Y (by decide) (by decide) (by decide)) (hAq Y (by decide) (by decide) (by decide) (by decide)) t1 (i := 51) (by omega) hX t2 ha hb hg (by omega)) lkX2_addParts mlX1_97 lmX2_addParts lpX2_addParts ⟨Nat.le_of_ble_eq_true rfl, Nat.le_of_ble_eq_true rfl⟩ ⟨Nat.le_of_ble_eq_true rfl, Nat.le_of_ble_eq_true rfl⟩ rfl t7.2.2.1 (Nat.le_of_ble_eq_true rfl) (dk rfl) ?_
        rintro _ h1 ⟨rfl, H1, f1⟩
        exact mid h1 (fun a2 b2 z1 z2 => by rw [el] at z1; rw [er] at z2; cases z1; cases z2; exact hg) (by rw [el, er]; exact T.pr Y H1 f1) (f1.u hLp) _ (by rw [el, er]; rfl)
      · refine br_ok X (dk rfl) rfl (show ((41 : Nat) : Int) + 5 = ((46 : Nat) : Int) from rfl) (fun q => absurd (nI_inj (by omega) (by omega) q) hg) (fun _ => ?_)
        refine fst1_ok X (dk rfl) rfl ?_
        exact reti_ok X hr hlk (bI_n false) (dk rfl) (Or.inl ⟨a, b, el, er, hg, rfl, rfl⟩) (Nat.le_of_ble_eq_true rfl) (Nat.le_of_ble_eq_true rfl)
set_option maxHeartbeats 16000000 in
theorem s1_isClear (h : AH) {k : Nat → Nat} {hd : Nat → Option Nat} (T : CTG B Q P h F X1 (nK k) (pK hd) f3 ps) (hX : BX X1) {z mk : Nat} (hz : z < 32) (hkb : ∀ i, i < 32 → k i < 32) (hha : ∀ a, hd z = some a → a < X1.length) : CT la D cA B0 pa yX1_isClear cX1_isClear 7 (some .boolean) (rmD 2 0 0) [.ref (P 5), vI z, .long (nL mk)] h (fun v h' => (∃ b : Bool, v = some (.int (bI b)) ∧ (b = true ↔ ∀ a, hd z = some a → ∀ j, j < ga X1 a → bt mk (k (ko X1 a j)))) ∧ h' = h) := by
  refine CT_of (by decide +kernel) (Nat.le_of_ble_eq_true rfl) ?_
  intro p e s m args below meth c X E hr hlk hnm
  have dk : ∀ {pc : Nat} {q : Instr × Nat}, lkd DX1_isClear pc = some q → decode cX1_isClear pc = .ok q := lkd_ok DX1_isClear_ok
  have hX32 := hX.2.2
  obtain ⟨t1, t2, t3, t4, t5, t6, t7⟩ := id T
  iterate 2 refine fst1_ok X (dk rfl) rfl ?_
  refine callVR_ok (ci := 3) (T := TX1) (N := 5) (av := [vI z]) (r := []) X E (s1_headAt h T hz) lkX1_headAt mlX1_94 lmX1_headAt lpX1_headAt ⟨Nat.le_of_ble_eq_true rfl, Nat.le_of_ble_eq_true rfl⟩ ⟨Nat.le_of_ble_eq_true rfl, Nat.le_of_ble_eq_true rfl⟩ rfl ⟨_, t3⟩ (Nat.le_of_ble_eq_true rfl) (dk rfl) ?_
  rintro _ rfl
  iterate 3 refine fst1_ok X (dk rfl) rfl ?_
  have ecs : hd z = none ∨ ∃ a, hd z = some a := by cases hd z with | none => exact Or.inl rfl | some a => exact Or.inr ⟨a, rfl⟩
  rcases ecs with eh | ⟨a, eh⟩
  · refine br_ok X (dk rfl) rfl (show ((10 : Nat) : Int) + 5 = ((15 : Nat) : Int) from rfl) (fun q => absurd (show pI (hd z) = Int32.ofInt (-1) by rw [eh]; rfl) q) (fun _ => ?_)
    refine fst1_ok X (dk rfl) rfl ?_
    exact reti_ok X hr hlk (bI_n true) (dk rfl) (⟨⟨true, rfl, ⟨fun _ a ea => (by rw [eh] at ea; cases ea), fun _ => rfl⟩⟩, rfl⟩) (Nat.le_of_ble_eq_true rfl) (Nat.le_of_ble_eq_true rfl)
  · have ha := hha a eh
    have hga := gl_get ha
    have lta := (gl_ok hX ha).lt
    have hga3 := ga_le hX ha
    rw [show pK hd z = nI a by show pI (hd z) = nI a; rw [eh]; rfl]
    refine br_ok X (dk rfl) rfl (show ((10 : Nat) : Int) + 5 = ((15 : Nat) : Int) from rfl) (fun _ => ?_) (fun q => absurd (nI_m1 (by omega)) q)
    iterate 5 refine fst1_ok X (dk rfl) rfl ?_
    refine getf_ok X flX1_16 (dk rfl) t3 rfl ?_
    refine fst1_ok X (dk rfl) rfl ?_
    refine callVR_ok (ci := 7) (T := TX5) (N := 3) (av := [vI a]) (r := []) X E (s5_letterAt h t1 (i := 51) (by omega) (nI a)) lkX5_letterAt mlX1_45 lmX5_letterAt lpX5_letterAt ⟨Nat.le_of_ble_eq_true rfl, Nat.le_of_ble_eq_true rfl⟩ ⟨Nat.le_of_ble_eq_true rfl, Nat.le_of_ble_eq_true rfl⟩ rfl ⟨_, (t1 51 (by omega)).2.1⟩ (Nat.le_of_ble_eq_true rfl) (dk rfl) ?_
    rintro _ rfl
    rw [t2.lt hga (by omega)]
    refine callNR_ok (av := [vI (gl X1 a)]) (r := []) X E (s6_partsOf h lta) lkX6_partsOf mnX1_111 lsX6_partsOf ⟨Nat.le_of_ble_eq_true rfl, Nat.le_of_ble_eq_true rfl⟩ ⟨Nat.le_of_ble_eq_true rfl, Nat.le_of_ble_eq_true rfl⟩ (Nat.le_of_ble_eq_true rfl) (dk rfl) ?_
    rintro _ rfl
    rw [show pF (gl X1 a) = ga X1 a from rfl]
    have loop : ∀ (u j : Nat), j + u = ga X1 a → (∀ i, i < j → bt mk (k (ko X1 a i))) → ∀ l : List (Nat × Value), lsel l [6, 5, 2, 0] = [(6, vI u), (5, vI (ko X1 a j)), (2, .long (nL mk)), (0, .ref (P 5))] → WR p la e (rmD 2 0 0) s m args below meth c D cA B0 7 (fun v h' => (∃ b : Bool, v = some (.int (bI b)) ∧ (b = true ↔ ∀ a, hd z = some a → ∀ j, j < ga X1 a → bt mk (k (ko X1 a j)))) ∧ h' = h) 35 l [] h 0 0 := by
      intro u
      induction u with
      | zero =>
        intro j hj hall l hl
        have hj2 : j = ga X1 a := by omega
        refine WS.sel [6, 5, 2, 0] hl ?_
        refine fst1_ok X (dk rfl) rfl ?_
        refine br_ok X (dk rfl) rfl (show ((37 : Nat) : Int) + 37 = ((74 : Nat) : Int) from rfl) (fun _ => ?_) (fun q => absurd (show nI 0 ≤ 0 by decide) q)
        refine fst1_ok X (dk rfl) rfl ?_
        exact reti_ok X hr hlk (bI_n true) (dk rfl) (⟨⟨true, rfl, ⟨fun _ a2 ea i hi => by rw [eh] at ea; cases ea; exact hall i (by omega), fun _ => rfl⟩⟩, rfl⟩) (Nat.le_of_ble_eq_true rfl) (Nat.le_of_ble_eq_true rfl)
      | succ u ih =>
        intro j hj hall l hl
        obtain ⟨k1, k2, k3, k4, k5⟩ := ko_mono hX ha (j := j) (by omega)
        refine WS.sel [6, 5, 2, 0] hl ?_
        refine fst1_ok X (dk rfl) rfl ?_
        refine br_ok X (dk rfl) rfl (show ((37 : Nat) : Int) + 37 = ((74 : Nat) : Int) from rfl) (fun q => absurd q (nI_nle (Nat.succ_pos _) (by omega))) (fun _ => ?_)
        iterate 3 refine fst1_ok X (dk rfl) rfl ?_
        refine callVR_ok (ci := 3) (T := TX1) (N := 5) (av := [vI (ko X1 a j)]) (r := [.long (nL mk)]) X E (s1_classAt h T (z := ko X1 a j) (by omega)) lkX1_classAt mlX1_68 lmX1_classAt lpX1_classAt ⟨Nat.le_of_ble_eq_true rfl, Nat.le_of_ble_eq_true rfl⟩ ⟨Nat.le_of_ble_eq_true rfl, Nat.le_of_ble_eq_true rfl⟩ rfl ⟨_, t3⟩ (Nat.le_of_ble_eq_true rfl) (dk rfl) ?_
        rintro _ rfl
        have hkk := hkb (ko X1 a j) (by omega)
        iterate 4 refine fst1_ok X (dk rfl) rfl ?_
        refine lcmp_ok X (dk rfl) ?_
        rw [show (nL mk >>> ((nI (k (ko X1 a j))).toInt64 &&& 63)) &&& Int64.ofNat ((1 : Fin 2) : Nat) = nL (mk >>> k (ko X1 a j) % 2) from lbit hkk]
        by_cases hb : mk >>> k (ko X1 a j) % 2 = 1
        · rw [hb]
          refine br_ok X (dk rfl) rfl (show ((52 : Nat) : Int) + 5 = ((57 : Nat) : Int) from rfl) (fun _ => ?_) (fun q => absurd (by decide) q)
          refine fst1_ok X (dk rfl) rfl ?_
          refine getf_ok X flX1_16 (dk rfl) t3 rfl ?_
          refine fst1_ok X (dk rfl) rfl ?_
          refine callVR_ok (ci := 7) (T := TX5) (N := 3) (av := [vI (ko X1 a j)]) (r := []) X E (s5_endOf h t1 (i := 51) (by omega) t2 (bx_tl hX k5).1) lkX5_endOf mlX1_114 lmX5_endOf lpX5_endOf ⟨Nat.le_of_ble_eq_true rfl, Nat.le_of_ble_eq_true rfl⟩ ⟨Nat.le_of_ble_eq_true rfl, Nat.le_of_ble_eq_true rfl⟩ rfl ⟨_, (t1 51 (by omega)).2.1⟩ (Nat.le_of_ble_eq_true rfl) (dk rfl) ?_
          rintro _ rfl
          iterate 2 refine fst1_ok X (dk rfl) rfl ?_
          refine br_ok X (dk rfl) rfl (show ((71 : Nat) : Int) + (-36) = ((35 : Nat) : Int) from rfl) (fun _ => ?_) (fun q => absurd trivial q)
          refine WS.sel (l' := [(6, vI u), (5, vI (ko X1 a (j + 1))), (2, .long (nL mk)), (0, .ref (P 5))]) [6, 5, 2, 0] (by rw [show vI u = Value.int (nI (u + 1) + Int32.ofInt (-1)) from congrArg Value.int (nI_dec _).symm]; rfl) ?_
          exact ih (j + 1) (by omega) (fun i hi => by
            rcases Nat.lt_or_ge i j with c1 | c1
            · exact hall i c1
            · rw [show i = j by omega]
              exact hb) _ rfl
        · have h0 : mk >>> k (ko X1 a j) % 2 = 0 := by
            have := Nat.mod_two_eq_zero_or_one (mk >>> k (ko X1 a j))
            omega
          rw [h0]
          refine br_ok X (dk rfl) rfl (show ((52 : Nat) : Int) + 5 = ((57 : Nat) : Int) from rfl) (fun q => absurd (by decide) q) (fun _ => ?_)
          refine fst1_ok X (dk rfl) rfl ?_
          exact reti_ok X hr hlk (bI_n false) (dk rfl) (⟨⟨false, rfl, ⟨fun z => (by cases z), fun z => absurd (z a eh j (by omega)) hb⟩⟩, rfl⟩) (Nat.le_of_ble_eq_true rfl) (Nat.le_of_ble_eq_true rfl)
    refine fst1_ok X (dk rfl) rfl ?_
    have k0 : Value.int (nI a + Int32.ofInt 1) = vI (ko X1 a 0) := congrArg Value.int (by rw [nI_1', nI_add]; rfl)
    refine WS.sel (l' := [(6, vI (ga X1 a)), (5, vI (ko X1 a 0)), (2, .long (nL mk)), (0, .ref (P 5))]) [6, 5, 2, 0] (by rw [← k0]; rfl) ?_
    exact loop _ 0 (Nat.zero_add _) (fun i hi => absurd hi (Nat.not_lt_zero i)) _ rfl
/-- the first place at which the same term stands -/
def flF (X : List Nat) (z : Nat) : Nat → Nat → Nat
  | 0, i => i
  | u + 1, i => if sub' X i = sub' X z then i else flF X z u (i + 1)
def flX (X : List Nat) (z : Nat) : Nat := if z < X.length then flF X z z 0 else z
theorem like_bx {X : List Nat} (hX : BX X) {i z : Nat} (hi : i < X.length) (hz : z < X.length) : ((X.drop i).take (tl X i) = (X.drop z).take (tl X i)) ↔ sub' X i = sub' X z := by
  have tw := sub_TW hX hi
  have hl := sub_len hX hi
  have h := TW_take (t := sub' X i) tw (bx_tl hX hz).1
  rw [List.drop_zero, List.take_length, hl] at h
  exact h
set_option maxHeartbeats 4000000 in
theorem s5_isLikeAtX (h : AH) (S : TS B Q h F) {i : Nat} (hi : i < 52) {nz : List Nat} (hN : TN (F i) nz) {p0 u p2 : Nat} (hp : nz.length ≤ p0) (hp2 : p0 < 2 ^ 20) : CT la D cA B0 pa yX5_isLikeAt cX5_isLikeAt 7 (some .boolean) (rmD 1 0 0) [.ref (B i), vI p0, .ref (B u), vI p2] h (RP (.int (bI false)) h) := by
  refine CT_of (by decide +kernel) (Nat.le_of_ble_eq_true rfl) ?_
  intro p e s m args below meth c X E hr hlk hnm
  have dk : ∀ {pc : Nat} {q : Instr × Nat}, lkd DX5_isLikeAt pc = some q → decode cX5_isLikeAt pc = .ok q := lkd_ok DX5_isLikeAt_ok
  obtain ⟨a1, a2, xs, a3, a4, -⟩ := S i hi
  have hg := rmI_ge i
  have hL := rmI_le i
  iterate 5 refine fst1_ok X (dk rfl) rfl ?_
  refine br_ok X (dk rfl) rfl (show ((8 : Nat) : Int) + 63 = ((71 : Nat) : Int) from rfl) (fun q => absurd q (by decide)) (fun _ => ?_)
  iterate 2 refine fst1_ok X (dk rfl) rfl ?_
  refine getf_ok X flX5_15 (dk rfl) a2 rfl ?_
  refine alen7_ok X (dk rfl) a3 a4 ?_
  refine br_ok X (dk rfl) rfl (show ((18 : Nat) : Int) + 53 = ((71 : Nat) : Int) from rfl) (fun q => absurd q (by rw [nI_0']; exact nI_ge (by omega) (by omega))) (fun _ => ?_)
  iterate 4 refine fst1_ok X (dk rfl) rfl ?_
  rw [nI_0', nI_add, Nat.add_zero]
  refine callVR_ok (ci := 7) (T := TX5) (N := 3) (av := [vI p0]) (r := []) X E (s5_letterAt h S hi (nI p0)) lkX5_letterAt mlX5_29 lmX5_letterAt lpX5_letterAt ⟨Nat.le_of_ble_eq_true rfl, Nat.le_of_ble_eq_true rfl⟩ ⟨Nat.le_of_ble_eq_true rfl, Nat.le_of_ble_eq_true rfl⟩ rfl ⟨_, (S i hi).2.1⟩ (Nat.le_of_ble_eq_true rfl) (dk rfl) ?_
  rintro _ rfl
  rw [hN.out hp (by omega)]
  iterate 3 refine fst1_ok X (dk rfl) rfl ?_
  refine br_ok X (dk rfl) rfl (show ((35 : Nat) : Int) + 16 = ((51 : Nat) : Int) from rfl) (fun _ => ?_) (fun q => absurd rfl q)
  refine fst1_ok X (dk rfl) rfl ?_
  exact reti_ok X hr hlk (bI_n false) (dk rfl) (⟨rfl, rfl⟩) (Nat.le_of_ble_eq_true rfl) (Nat.le_of_ble_eq_true rfl)
set_option maxHeartbeats 16000000 in
theorem s5_firstLike (h : AH) (S : TS B Q h F) {ib : Nat} (hib : ib < 52) (hX : BX X1) (hN : TN (F ib) X1) {z : Nat} (hz : z < 2 ^ 10) : CT la D cA B0 pa yX5_firstLike cX5_firstLike 3 (some .int) (rmD 2 0 0) [.ref (B ib), vI z] h (RP (vI (flX X1 z)) h) := by
  refine CT_of (by decide +kernel) (Nat.le_of_ble_eq_true rfl) ?_
  intro p e s m args below meth c X E hr hlk hnm
  have dk : ∀ {pc : Nat} {q : Instr × Nat}, lkd DX5_firstLike pc = some q → decode cX5_firstLike pc = .ok q := lkd_ok DX5_firstLike_ok
  have hX32 := hX.2.2
  have loop : ∀ (u i : Nat), u + i = z → (if z < X1.length then flF X1 z u i else z) = flX X1 z → ∀ l : List (Nat × Value), lsel l [2, 1, 0] = [(2, vI i), (1, vI z), (0, .ref (B ib))] → WR p la e (rmD 2 0 0) s m args below meth c D cA B0 3 (RP (vI (flX X1 z)) h) 2 l [] h 0 0 := by
    intro u
    induction u with
    | zero =>
      intro i hi he l hl
      have hi2 : i = z := by omega
      subst hi2
      have ez : flX X1 i = i := by
        rw [← he]
        split <;> rfl
      refine WS.sel [2, 1, 0] hl ?_
      iterate 2 refine fst1_ok X (dk rfl) rfl ?_
      refine br_ok X (dk rfl) rfl (show ((4 : Nat) : Int) + 21 = ((25 : Nat) : Int) from rfl) (fun _ => ?_) (fun q => absurd (Int32.le_refl _) q)
      refine fst1_ok X (dk rfl) rfl ?_
      exact reti_ok X hr hlk rfl (dk rfl) (⟨by rw [ez]; rfl, rfl⟩) (Nat.le_of_ble_eq_true rfl) (Nat.le_of_ble_eq_true rfl)
    | succ u ih =>
      intro i hi he l hl
      have f3' : Value.int (nI i + Int32.ofInt 1) = vI (i + 1) := congrArg Value.int (by rw [nI_1', nI_add])
      refine WS.sel [2, 1, 0] hl ?_
      iterate 2 refine fst1_ok X (dk rfl) rfl ?_
      refine br_ok X (dk rfl) rfl (show ((4 : Nat) : Int) + 21 = ((25 : Nat) : Int) from rfl) (fun q => absurd q (nI_ge (by omega) (by omega))) (fun _ => ?_)
      iterate 4 refine fst1_ok X (dk rfl) rfl ?_
      rcases Nat.lt_or_ge i X1.length with hil | hil
      · refine callVR_ok (ci := 7) (T := TX5) (N := 3) (av := [vI i, .ref (B ib), vI z]) (r := []) X E (s5_isLikeAt h S hib hN hib hN (p0 := i) (p2 := z) (by omega) (bx_tl hX hil).1) lkX5_isLikeAt mlX5_68 lmX5_isLikeAt lpX5_isLikeAt ⟨Nat.le_of_ble_eq_true rfl, Nat.le_of_ble_eq_true rfl⟩ ⟨Nat.le_of_ble_eq_true rfl, Nat.le_of_ble_eq_true rfl⟩ rfl ⟨_, (S ib hib).2.1⟩ (Nat.le_of_ble_eq_true rfl) (dk rfl) ?_
        rintro _ rfl
        rcases Nat.lt_or_ge z X1.length with hzl | hzl
        · rw [if_pos hzl] at he
          rw [flF] at he
          by_cases hs : sub' X1 i = sub' X1 z
          · rw [if_pos hs] at he
            rw [decide_eq_true ((like_bx hX hil hzl).mpr hs)]
            refine br_ok X (dk rfl) rfl (show ((14 : Nat) : Int) + 5 = ((19 : Nat) : Int) from rfl) (fun q => absurd q bI_t) (fun _ => ?_)
            refine fst1_ok X (dk rfl) rfl ?_
            exact reti_ok X hr hlk rfl (dk rfl) (⟨by rw [← he]; rfl, rfl⟩) (Nat.le_of_ble_eq_true rfl) (Nat.le_of_ble_eq_true rfl)
          · rw [if_neg hs] at he
            rw [decide_eq_false (fun w => hs ((like_bx hX hil hzl).mp w))]
            refine br_ok X (dk rfl) rfl (show ((14 : Nat) : Int) + 5 = ((19 : Nat) : Int) from rfl) (fun _ => ?_) (fun q => absurd bI_f' q)
            refine fst1_ok X (dk rfl) rfl ?_
            refine br_ok X (dk rfl) rfl (show ((22 : Nat) : Int) + (-20) = ((2 : Nat) : Int) from rfl) (fun _ => ?_) (fun q => absurd trivial q)
            refine WS.sel (l' := [(2, vI (i + 1)), (1, vI z), (0, .ref (B ib))]) [2, 1, 0] (by rw [← f3']; rfl) ?_
            exact ih (i + 1) (by omega) (by rw [if_pos hzl]; exact he) _ rfl
        · rw [if_neg (by omega)] at he
          rw [decide_eq_false (fun w => by
            have h1 := (bx_tl hX hil).2
            have h2 := congrArg List.length w
            rw [List.drop_eq_nil_of_le hzl, List.take_nil, List.length_take, List.length_drop, List.length_nil] at h2
            omega)]
          refine br_ok X (dk rfl) rfl (show ((14 : Nat) : Int) + 5 = ((19 : Nat) : Int) from rfl) (fun _ => ?_) (fun q => absurd bI_f' q)
          refine fst1_ok X (dk rfl) rfl ?_
          refine br_ok X (dk rfl) rfl (show ((22 : Nat) : Int) + (-20) = ((2 : Nat) : Int) from rfl) (fun _ => ?_) (fun q => absurd trivial q)
          refine WS.sel (l' := [(2, vI (i + 1)), (1, vI z), (0, .ref (B ib))]) [2, 1, 0] (by rw [← f3']; rfl) ?_
          exact ih (i + 1) (by omega) (by rw [if_neg (by omega)]; exact he) _ rfl
      · rw [if_neg (by omega)] at he
        refine callVR_ok (ci := 7) (T := TX5) (N := 3) (av := [vI i, .ref (B ib), vI z]) (r := []) X E (s5_isLikeAtX h S hib hN (u := ib) (p2 := z) hil (by omega)) lkX5_isLikeAt mlX5_68 lmX5_isLikeAt lpX5_isLikeAt ⟨Nat.le_of_ble_eq_true rfl, Nat.le_of_ble_eq_true rfl⟩ ⟨Nat.le_of_ble_eq_true rfl, Nat.le_of_ble_eq_true rfl⟩ rfl ⟨_, (S ib hib).2.1⟩ (Nat.le_of_ble_eq_true rfl) (dk rfl) ?_
        rintro _ rfl
        refine br_ok X (dk rfl) rfl (show ((14 : Nat) : Int) + 5 = ((19 : Nat) : Int) from rfl) (fun _ => ?_) (fun q => absurd bI_f' q)
        refine fst1_ok X (dk rfl) rfl ?_
        refine br_ok X (dk rfl) rfl (show ((22 : Nat) : Int) + (-20) = ((2 : Nat) : Int) from rfl) (fun _ => ?_) (fun q => absurd trivial q)
        refine WS.sel (l' := [(2, vI (i + 1)), (1, vI z), (0, .ref (B ib))]) [2, 1, 0] (by rw [← f3']; rfl) ?_
        exact ih (i + 1) (by omega) (by rw [if_neg (by omega)]; exact he) _ rfl
  iterate 2 refine fst1_ok X (dk rfl) rfl ?_
  exact loop z 0 (Nat.add_zero _) rfl _ rfl
end S21
end Uc21cls
section Uc22cls2
/-! the class, strongly: what its loop over pairs keeps; nothing within itself; places for names (printed by wip/p20/genT8.py) -/
/-- classes tell a head of theirs -/
def HDP (X : List Nat) (k : Nat → Nat) (hd : Nat → Option Nat) : Prop := (∀ i, i < 32 → k i < 32) ∧ (∀ p, p < X.length → k p < X.length ∧ k (k p) = k p) ∧ (∀ p, p < X.length → ∀ a, hd (k p) = some a → a < X.length ∧ 10 ≤ gl X a ∧ k a = k p) ∧ ∀ p, p < X.length → 10 ≤ gl X p → hd (k p) ≠ none
def IC (X : List Nat) (n1 : Nat) (k : Nat → Nat) (hd : Nat → Option Nat) (sk : PL2) : Prop := HDP X k hd ∧ (∀ p q, p < X.length → q < X.length → sub' X p = sub' X q → k p = k q) ∧ ClK X k sk ∧ Gnk X.length k sk 0 n1 ∧ (∀ k', GdK X n1 k' → Sbk X.length k k' ∧ ∀ z ∈ sk, k' z.1 = k' z.2) ∧ ∀ z ∈ sk, z.1 < X.length ∧ z.2 < X.length
def fxK (n : Nat) (k : Nat → Nat) : Nat := sJ (fun c => if k c = c then 1 else 0) n
def hdM (k : Nat → Nat) (hd : Nat → Option Nat) (zl zr : Nat) : Nat → Option Nat := fun y => if y = zl ∧ hd zl = none then hd zr else hd y
def nwM (X : List Nat) (hd : Nat → Option Nat) (zl zr : Nat) : PL2 := match hd zl, hd zr with
  | some a, some b => kdL X a b (ga X a) 0
  | _, _ => []
theorem IC.skip {X : List Nat} {n1 : Nat} {k : Nat → Nat} {hd : Nat → Option Nat} {z : Nat × Nat} {sk : PL2} (I : IC X n1 k hd (z :: sk)) (h : k z.1 = k z.2) : IC X n1 k hd sk := by
  obtain ⟨i1, i2, i3, i4, i5, i6⟩ := I
  obtain ⟨h1, h2⟩ := i6 z List.mem_cons_self
  refine ⟨i1, i2, i3.skip h1 h2 h, fun k' hs hps => i4 k' hs (fun y hy => ?_), fun k' hG => ⟨(i5 k' hG).1, fun y hy => (i5 k' hG).2 y (List.mem_cons_of_mem _ hy)⟩, fun y hy => i6 y (List.mem_cons_of_mem _ hy)⟩
  rcases List.mem_cons.mp hy with rfl | hy
  · exact hs _ _ h1 h2 h
  · exact hps y hy
theorem IC.mrg {X : List Nat} {n1 : Nat} (hX : BX X) {k : Nat → Nat} {hd : Nat → Option Nat} {z : Nat × Nat} {sk : PL2} (I : IC X n1 k hd (z :: sk)) (hne : k z.1 ≠ k z.2) (hgg : ∀ a b, hd (k z.1) = some a → hd (k z.2) = some b → gl X a = gl X b) :
    IC X n1 (mgK k (k z.1) (k z.2)) (hdM k hd (k z.1) (k z.2)) (nwM X hd (k z.1) (k z.2) ++ sk) ∧ fxK X.length (mgK k (k z.1) (k z.2)) + 1 ≤ fxK X.length k ∧ (nwM X hd (k z.1) (k z.2)).length ≤ 3 := by
  obtain ⟨⟨a1, a2, a3, a4⟩, i2, i3, i4, i5, i6⟩ := I
  obtain ⟨h1, h2⟩ := i6 z List.mem_cons_self
  have hs0 := mgK_sb X.length k (k z.1) (k z.2)
  have l1 := a2 z.1 h1
  have l2 := a2 z.2 h2
  have mg_r : ∀ p, k p = k z.2 → mgK k (k z.1) (k z.2) p = k z.1 := fun p e => if_pos e
  have mg_n : ∀ p, k p ≠ k z.2 → mgK k (k z.1) (k z.2) p = k p := fun p e => if_neg e
  have hz : mgK k (k z.1) (k z.2) z.1 = mgK k (k z.1) (k z.2) z.2 := by rw [mg_n _ hne, mg_r _ rfl]
  have up : ∀ k' : Nat → Nat, Sbk X.length (mgK k (k z.1) (k z.2)) k' → (∀ y ∈ nwM X hd (k z.1) (k z.2) ++ sk, k' y.1 = k' y.2) → Sbk X.length k k' ∧ ∀ y ∈ z :: sk, k' y.1 = k' y.2 := fun k' hs hps => ⟨hs0.tr hs, fun y hy => by
    rcases List.mem_cons.mp hy with rfl | hy
    · exact hs _ _ h1 h2 hz
    · exact hps y (List.mem_append_right _ hy)⟩
  have ecs : ∀ y, hd y = none ∨ ∃ a, hd y = some a := fun y => by cases hd y with | none => exact Or.inl rfl | some a => exact Or.inr ⟨a, rfl⟩
  have H : HDP X (mgK k (k z.1) (k z.2)) (hdM k hd (k z.1) (k z.2)) := by
    refine ⟨fun i hi => ?_, fun p hp => ?_, fun p hp a ha => ?_, fun p hp hg hn => ?_⟩
    · have := a1 i hi
      have := hX.2.2
      unfold mgK
      split <;> omega
    · obtain ⟨p1, p2⟩ := a2 p hp
      by_cases e : k p = k z.2
      · rw [mg_r p e]
        exact ⟨l1.1, by rw [mg_n _ (by rw [l1.2]; exact hne), l1.2]⟩
      · rw [mg_n p e]
        exact ⟨p1, by rw [mg_n _ (by rw [p2]; exact e), p2]⟩
    · unfold hdM at ha
      by_cases e : k p = k z.2
      · rw [mg_r p e] at ha ⊢
        by_cases c : hd (k z.1) = none
        · rw [if_pos ⟨rfl, c⟩] at ha
          obtain ⟨x1, x2, x3⟩ := a3 z.2 h2 a ha
          exact ⟨x1, x2, mg_r a x3⟩
        · rw [if_neg (fun w => c w.2)] at ha
          obtain ⟨x1, x2, x3⟩ := a3 z.1 h1 a ha
          exact ⟨x1, x2, by rw [mg_n a (by rw [x3]; exact hne), x3]⟩
      · rw [mg_n p e] at ha ⊢
        by_cases c : k p = k z.1 ∧ hd (k z.1) = none
        · rw [if_pos c] at ha
          obtain ⟨x1, x2, x3⟩ := a3 z.2 h2 a ha
          exact ⟨x1, x2, by rw [mg_r a x3, c.1]⟩
        · rw [if_neg c] at ha
          obtain ⟨x1, x2, x3⟩ := a3 p hp a ha
          exact ⟨x1, x2, by rw [mg_n a (by rw [x3]; exact e), x3]⟩
    · unfold hdM at hn
      have hold := a4 p hp hg
      by_cases e : k p = k z.2
      · rw [mg_r p e] at hn
        by_cases c : hd (k z.1) = none
        · rw [if_pos ⟨rfl, c⟩] at hn
          exact hold (by rw [e]; exact hn)
        · rw [if_neg (fun w => c w.2)] at hn
          exact c hn
      · rw [mg_n p e] at hn
        by_cases c : k p = k z.1 ∧ hd (k z.1) = none
        · exact hold (by rw [c.1]; exact c.2)
        · rw [if_neg c] at hn
          exact hold hn
  refine ⟨⟨H, fun p q hp hq e => hs0 p q hp hq (i2 p q hp hq e), ?_, fun k' hs hps => (fun u => i4 k' u.1 u.2) (up k' hs hps), fun k' hG => ?_, fun y hy => ?_⟩, ?_, ?_⟩
  · unfold nwM
    rcases ecs (k z.1) with el | ⟨a, el⟩
    · rw [el]
      exact i3.one h1 h2 (Or.inl (fun p hp e => by
        rcases Nat.lt_or_ge (gl X p) 10 with c | c
        · exact c
        · exact absurd (by rw [e]; exact el) (a4 p hp c)))
    · rcases ecs (k z.2) with er | ⟨b, er⟩
      · rw [el, er]
        exact i3.one h1 h2 (Or.inr (fun p hp e => by
          rcases Nat.lt_or_ge (gl X p) 10 with c | c
          · exact c
          · exact absurd (by rw [e]; exact er) (a4 p hp c)))
      · rw [el, er]
        obtain ⟨x1, x2, x3⟩ := a3 z.1 h1 a el
        obtain ⟨y1, y2, y3⟩ := a3 z.2 h2 b er
        exact i3.two h1 h2 x1 y1 x3 y3 x2 y2 (hgg a b el er)
  · obtain ⟨s1, s2⟩ := i5 k' hG
    have sz := s2 z List.mem_cons_self
    refine ⟨mgK_sound h1 h2 s1 sz, fun y hy => ?_⟩
    rcases List.mem_append.mp hy with hy | hy
    · unfold nwM at hy
      rcases ecs (k z.1) with el | ⟨a, el⟩
      · rw [el] at hy
        simp at hy
      · rcases ecs (k z.2) with er | ⟨b, er⟩
        · rw [el, er] at hy
          simp at hy
        · rw [el, er] at hy
          obtain ⟨x1, x2, x3⟩ := a3 z.1 h1 a el
          obtain ⟨y1, y2, y3⟩ := a3 z.2 h2 b er
          obtain ⟨i, hi⟩ := List.getElem?_of_mem hy
          have hl := (List.getElem?_eq_some_iff.mp hi).1
          rw [kdL_len] at hl
          rw [kdL_get X a b _ 0 i hl, Nat.zero_add] at hi
          cases hi
          exact (hG.heads h1 h2 s1 sz x1 y1 x3 y3 x2 y2).2 i hl
    · exact s2 y (List.mem_cons_of_mem _ hy)
  · rcases List.mem_append.mp hy with hy | hy
    · unfold nwM at hy
      rcases ecs (k z.1) with el | ⟨a, el⟩
      · rw [el] at hy
        simp at hy
      · rcases ecs (k z.2) with er | ⟨b, er⟩
        · rw [el, er] at hy
          simp at hy
        · rw [el, er] at hy
          exact kdL_in hX (a3 z.1 h1 a el).1 (a3 z.2 h2 b er).1 (hgg a b el er) y hy
    · exact i6 y (List.mem_cons_of_mem _ hy)
  · have e := sJ_upd (f := fun c => if mgK k (k z.1) (k z.2) c = c then 1 else 0) (g := fun c => if k c = c then 1 else 0) (k := k z.2) (n := X.length) l2.1 (fun i hi => by
      by_cases e : k i = k z.2
      · rw [mg_r i e, if_neg (fun w => hne (by rw [← e, ← w, l1.2])), if_neg (fun w => hi (by rw [← e, w]))]
      · rw [mg_n i e])
    rw [if_pos l2.2, mg_r _ l2.2, if_neg hne] at e
    unfold fxK
    omega
  · unfold nwM
    rcases ecs (k z.1) with el | ⟨a, el⟩
    · rw [el]
      exact Nat.zero_le _
    · rcases ecs (k z.2) with er | ⟨b, er⟩
      · rw [el, er]
        exact Nat.zero_le _
      · rw [el, er]
        show (kdL X a b (ga X a) 0).length ≤ 3
        rw [kdL_len]
        exact ga_le hX (a3 z.1 h1 a el).1
theorem IC.no {X : List Nat} {n1 : Nat} {k : Nat → Nat} {hd : Nat → Option Nat} {z : Nat × Nat} {sk : PL2} (I : IC X n1 k hd (z :: sk)) {a b : Nat} (ea : hd (k z.1) = some a) (eb : hd (k z.2) = some b) (hg : gl X a ≠ gl X b) : ¬ ∃ k', GdK X n1 k' := fun ⟨k', hG⟩ => by
  obtain ⟨⟨a1, a2, a3, a4⟩, i2, i3, i4, i5, i6⟩ := I
  obtain ⟨h1, h2⟩ := i6 z List.mem_cons_self
  obtain ⟨x1, x2, x3⟩ := a3 z.1 h1 a ea
  obtain ⟨y1, y2, y3⟩ := a3 z.2 h2 b eb
  obtain ⟨s1, s2⟩ := i5 k' hG
  exact hg (hG.heads h1 h2 s1 (s2 z List.mem_cons_self) x1 y1 x3 y3 x2 y2).1
theorem IC.mn {X : List Nat} {n1 : Nat} {k : Nat → Nat} {hd : Nat → Option Nat} (I : IC X n1 k hd []) : MnK X n1 k := by
  obtain ⟨i1, i2, i3, i4, i5, i6⟩ := I
  exact ⟨i3.end (i4 k (Sbk.rf _ _) (fun y hy => by simp at hy)) i2, fun k' hG => (i5 k' hG).1⟩
theorem sJ_lt {f g : Nat → Nat} : ∀ {n j : Nat}, (∀ i, i < n → f i ≤ g i) → j < n → f j < g j → sJ f n + 1 ≤ sJ g n
  | 0, j, h, hj, _ => by omega
  | n + 1, j, h, hj, hlt => by
    show sJ f n + f n + 1 ≤ sJ g n + g n
    have hn := h n (by omega)
    by_cases e : j = n
    · subst e
      have := sJ_le (n := j) (fun i hi => h i (by omega))
      omega
    · have := sJ_lt (n := n) (j := j) (fun i hi => h i (by omega)) (by omega) hlt
      omega
theorem bt_st {m n y : Nat} : bt (m ||| 2 ^ n) y ↔ bt m y ∨ y = n := by
  rw [bt_or]
  constructor
  · rintro (h | h)
    · exact Or.inl h
    · rw [bt_tb, Nat.testBit_two_pow, decide_eq_true_eq] at h
      exact Or.inr h.symm
  · rintro (h | h)
    · exact Or.inl h
    · refine Or.inr ?_
      rw [bt_tb, Nat.testBit_two_pow, decide_eq_true_eq]
      exact h.symm
/-- clear classes: their parts were clear before -/
def CLI (X : List Nat) (k : Nat → Nat) (m : Nat) : Prop := ∃ (rk : Nat → Nat) (K : Nat), (∀ c, bt m c → rk c < K) ∧ ∀ p, p < X.length → bt m (k p) → 10 ≤ gl X p → ∀ j, j < ga X p → bt m (k (ko X p j)) ∧ rk (k (ko X p j)) < rk (k p)
def clr (X : List Nat) (k : Nat → Nat) (hd : Nat → Option Nat) (m c : Nat) : Prop := ∀ a, hd c = some a → ∀ j, j < ga X a → bt m (k (ko X a j))
theorem CLI.add {X : List Nat} {n1 : Nat} {k : Nat → Nat} {hd : Nat → Option Nat} (H : HDP X k hd) (G : GdK X n1 k) {m : Nat} (C : CLI X k m) {p0 : Nat} (hp0 : p0 < X.length) (hc : clr X k hd m (k p0)) : CLI X k (m ||| 2 ^ k p0) := by
  obtain ⟨rk, K, r1, r2⟩ := C
  by_cases hb : bt m (k p0)
  · have e : ∀ y, bt (m ||| 2 ^ k p0) y ↔ bt m y := fun y => by
      rw [bt_st]
      exact ⟨fun z => z.elim id (fun w => by rw [w]; exact hb), Or.inl⟩
    exact ⟨rk, K, fun c h => r1 c ((e c).mp h), fun p hp h g j hj => by
      obtain ⟨x1, x2⟩ := r2 p hp ((e _).mp h) g j hj
      exact ⟨(e _).mpr x1, x2⟩⟩
  · refine ⟨fun c => if c = k p0 then K else rk c, K + 1, fun c h => ?_, fun p hp h g j hj => ?_⟩
    · dsimp only
      split
      · omega
      · rename_i hc0
        have := r1 c ((bt_st.mp h).resolve_right hc0)
        omega
    · have ne : ∀ y, bt m y → y ≠ k p0 := fun y hy e => hb (by rw [← e]; exact hy)
      dsimp only
      by_cases e : k p = k p0
      · have hh := H.2.2.2 p hp g
        cases ea : hd (k p) with
        | none => exact absurd ea hh
        | some a =>
          obtain ⟨x1, x2, x3⟩ := H.2.2.1 p hp a ea
          obtain ⟨y1, y2⟩ := G.2.2 p a hp x1 x3.symm g x2
          have hb2 := hc a (by rw [← e]; exact ea) j (by rw [← ga_eq y1]; exact hj)
          rw [← y2 j hj] at hb2
          rw [if_neg (ne _ hb2), if_pos e]
          exact ⟨bt_st.mpr (Or.inl hb2), r1 _ hb2⟩
      · have hbp := (bt_st.mp h).resolve_right e
        obtain ⟨x1, x2⟩ := r2 p hp hbp g j hj
        rw [if_neg (ne _ x1), if_neg e]
        exact ⟨bt_st.mpr (Or.inl x1), x2⟩
theorem CLI.ac {X : List Nat} {k : Nat → Nat} {m : Nat} (C : CLI X k m) (h : ∀ p, p < X.length → bt m (k p)) : AcK X k := by
  obtain ⟨rk, K, r1, r2⟩ := C
  exact ⟨fun p => rk (k p), fun p q hp hq e => congrArg rk e, fun p hp j hj => (r2 p hp (h p hp) (ga_pos (X := X) (p := p) (by omega)).1 j hj).2⟩
def cnM (X : List Nat) (k : Nat → Nat) (m : Nat) : Nat := sJ (fun c => if k c = c ∧ m >>> c % 2 = 1 then 1 else 0) X.length
theorem cnM_le {X : List Nat} {n1 : Nat} {k : Nat → Nat} (h0 : k 0 = k n1) (hn : n1 < X.length) (hn0 : 0 < n1) (m : Nat) : cnM X k m + 1 ≤ X.length := by
  obtain ⟨c, hc, hk⟩ : ∃ c, c < X.length ∧ k c ≠ c := by
    by_cases e : k 0 = 0
    · exact ⟨n1, hn, fun z => by rw [← h0, e] at z; omega⟩
    · exact ⟨0, by omega, e⟩
  have h1 : cnM X k m ≤ sJ (fun i => if i = c then 0 else 1) X.length := sJ_le (fun i hi => by
    by_cases e : i = c
    · rw [if_neg (fun z => hk (by rw [← e]; exact z.1))]
      exact Nat.zero_le _
    · rw [if_neg e]
      split <;> omega)
  have h2 := sJ_upd (f := fun i => if i = c then 0 else 1) (g := fun _ => 1) (k := c) (n := X.length) hc (fun i hi => if_neg hi)
  rw [sJ_1, if_pos rfl] at h2
  omega
theorem cnM_lt {X : List Nat} {k : Nat → Nat} {m0 m1 c : Nat} (hs : ∀ y, bt m0 y → bt m1 y) (hc : c < X.length) (hk : k c = c) (h0 : ¬ bt m0 c) (h1 : bt m1 c) : cnM X k m0 + 1 ≤ cnM X k m1 := by
  refine sJ_lt (j := c) (fun i hi => ?_) hc ?_
  · by_cases e : k i = i ∧ m0 >>> i % 2 = 1
    · rw [if_pos e, if_pos ⟨e.1, hs i e.2⟩]
      exact Nat.le_refl _
    · rw [if_neg e]
      exact Nat.zero_le _
  · rw [if_neg (fun z => h0 z.2), if_pos ⟨hk, h1⟩]
    exact Nat.zero_lt_one
/-- among the classes that aren't clear is one whose parts all are -/
theorem clr_ex {X : List Nat} {k : Nat → Nat} {hd : Nat → Option Nat} (H : HDP X k hd) {rk : Nat → Nat} (r1 : ∀ p q, p < X.length → q < X.length → k p = k q → rk p = rk q) (r2 : ∀ p, p < X.length → ∀ j, j < ga X p → rk (ko X p j) < rk p) (hko : ∀ p, p < X.length → ∀ j, j < ga X p → ko X p j < X.length) {m : Nat} : ∀ (n p : Nat), rk p < n → p < X.length → ¬ bt m (k p) → ∃ p', p' < X.length ∧ ¬ bt m (k p') ∧ clr X k hd m (k p') := by
  intro n
  induction n with
  | zero => intro p h; omega
  | succ n ih =>
    intro p h hp hb
    by_cases c : clr X k hd m (k p)
    · exact ⟨p, hp, hb, c⟩
    · unfold clr at c
      obtain ⟨a, c⟩ := Classical.not_forall.mp c
      obtain ⟨ea, c⟩ := Classical.not_imp.mp c
      obtain ⟨j, c⟩ := Classical.not_forall.mp c
      obtain ⟨hj, c⟩ := Classical.not_imp.mp c
      obtain ⟨x1, x2, x3⟩ := H.2.2.1 p hp a ea
      have := r2 a x1 j hj
      have := r1 a p x1 hp x3
      exact ih (ko X a j) (by omega) (hko a x1 j hj) c
/-- a place for a name, or none -/
def PFO (X : List Nat) (k : Nat → Nat) (hd : Nat → Option Nat) (x : Nat) (oo : Option Nat) : Prop := (oo = none ∧ (x ∉ X ∨ (x ∈ X ∧ hd (k (fpN x X)) = none ∧ ∀ z, z < X.length → k z = k (fpN x X) → x ≤ gl X z))) ∨
  ∃ q, oo = some q ∧ x ∈ X ∧ q < X.length ∧ k q = k (fpN x X) ∧ (hd (k (fpN x X)) = some q ∨ (hd (k (fpN x X)) = none ∧ gl X q < x ∧ ∀ z, z < X.length → k z = k (fpN x X) → gl X q ≤ gl X z))
theorem fpN_at {x : Nat} : ∀ {ys : List Nat}, x ∈ ys → ys.getD (fpN x ys) 0 = x
  | [], h => by simp at h
  | y :: r, h => by
    by_cases c : y = x
    · subst c
      rw [fpN_eq]
      rfl
    · rw [fpN_ne c]
      exact fpN_at (ys := r) ((List.mem_cons.mp h).resolve_left (fun z => c z.symm))
theorem PFO.sk {X : List Nat} {n1 : Nat} (hX : BX X) {k : Nat → Nat} {hd : Nat → Option Nat} (H : HDP X k hd) (G : GdK X n1 k) {S : SS} (h8 : ∀ x, 8 ≤ x → S x = none) (hP : ∀ x, x < 8 → PFO X k hd x (S x)) : SKP X k S := by
  have fp : ∀ x, x ∈ X → fpN x X < X.length ∧ gl X (fpN x X) = x := fun x hx => ⟨fpN_mem hx, fpN_at hx⟩
  have noh : ∀ p, p < X.length → hd (k p) = none → ∀ z, z < X.length → k z = k p → gl X z < 10 := fun p hp hn z hz e => by
    rcases Nat.lt_or_ge (gl X z) 10 with c | c
    · exact c
    · exact absurd (by rw [e]; exact hn) (H.2.2.2 z hz c)
  constructor
  · intro x q e
    have hx8 : x < 8 := by
      rcases Nat.lt_or_ge x 8 with c | c
      · exact c
      · rw [h8 x c] at e
        cases e
    rcases hP x hx8 with ⟨z, -⟩ | ⟨q2, z, m1, m2, m3, m4⟩
    · rw [z] at e
      cases e
    · rw [z] at e
      cases e
      obtain ⟨f1, f2⟩ := fp x m1
      refine ⟨hx8, m2, fpN x X, f1, f2, m3.symm, ?_⟩
      rcases m4 with m4 | ⟨m4, m5, m6⟩
      · exact Or.inl (H.2.2.1 _ f1 q m4).2.1
      · exact Or.inr ⟨m5, fun z hz ez => ⟨m6 z hz (by rw [ez, m3]), noh _ f1 m4 z hz (by rw [ez, m3])⟩⟩
  · intro p hp hg es z hz ez
    have hm : gl X p ∈ X := List.mem_of_getElem? (gl_get hp)
    have hp8 := gl_8 hX hp hg
    obtain ⟨f1, f2⟩ := fp _ hm
    have kp : k p = k (fpN (gl X p) X) := G.2.1 p _ hp f1 (by rw [name_sub hX hp hg, name_sub hX f1 (by omega), f2])
    rcases hP _ hp8 with ⟨-, w | ⟨-, w1, w2⟩⟩ | ⟨q2, w, -⟩
    · exact absurd hm w
    · exact ⟨w2 z hz (by rw [ez, kp]), noh _ f1 w1 z hz (by rw [ez, kp])⟩
    · rw [es] at w
      cases w
section S22
variable {la : Launch} {D : va_G} {cA : Nat → ClassId} {B0 pa : Nat} {B Q P : Nat → Nat} {F : Nat → TC} {X1 : List Nat} {f1 f2 f3 : Nat → Int32} {ps : PL2}
set_option maxHeartbeats 64000000 in
theorem s1_isNoneInItself (h : AH) {n1 : Nat} {k : Nat → Nat} {hd : Nat → Option Nat} (T : CTG B Q P h F X1 (nK k) (pK hd) f3 ps) (hY : BY X1 n1) (H : HDP X1 k hd) (G : GdK X1 n1 k) : CT la D cA B0 pa yX1_isNoneInItself cX1_isNoneInItself 7 (some .boolean) (rmD 3 0 0) [.ref (P 5)] h (fun v h' => (∃ b : Bool, v = some (.int (bI b)) ∧ (b = true ↔ AcK X1 k)) ∧ h' = h) := by
  refine CT_of (by decide +kernel) (Nat.le_of_ble_eq_true rfl) ?_
  intro p e s m args below meth c X E hr hlk hnm
  have dk : ∀ {pc : Nat} {q : Instr × Nat}, lkd DX1_isNoneInItself pc = some q → decode cX1_isNoneInItself pc = .ok q := lkd_ok DX1_isNoneInItself_ok
  have hX := hY.1
  have hX32 := hX.2.2
  have hn1 := hY.2.2.2.1
  have hn0 := hY.2.1
  obtain ⟨t1, t2, t3, ⟨row, r1, r2, r3⟩, t5, t6, t7⟩ := id T
  have hkb := H.1
  have kb : ∀ p, p < X1.length → k p < 32 := fun p hp => hkb p (by omega)
  have out : ∀ (u : Nat), u ≤ 32 → (u = 0 ↔ AcK X1 k) → ∀ l : List (Nat × Value), lsel l [4] = [(4, vI u)] → WR p la e (rmD 3 0 0) s m args below meth c D cA B0 7 (fun v h' => (∃ b : Bool, v = some (.int (bI b)) ∧ (b = true ↔ AcK X1 k)) ∧ h' = h) 90 l [] h 0 0 := by
    intro u hu32 hu l hl
    refine WS.sel [4] hl ?_
    refine fst1_ok X (dk rfl) rfl ?_
    by_cases hz : u = 0
    · rw [hz]
      refine br_ok X (dk rfl) rfl (show ((92 : Nat) : Int) + 7 = ((99 : Nat) : Int) from rfl) (fun q => absurd (show nI 0 = 0 by decide) q) (fun _ => ?_)
      refine fst1_ok X (dk rfl) rfl ?_
      refine br_ok X (dk rfl) rfl (show ((96 : Nat) : Int) + 4 = ((100 : Nat) : Int) from rfl) (fun _ => ?_) (fun q => absurd trivial q)
      exact reti_ok X hr hlk (bI_n true) (dk rfl) (⟨⟨true, rfl, ⟨fun _ => hu.mp hz, fun _ => rfl⟩⟩, rfl⟩) (Nat.le_of_ble_eq_true rfl) (Nat.le_of_ble_eq_true rfl)
    · refine br_ok X (dk rfl) rfl (show ((92 : Nat) : Int) + 7 = ((99 : Nat) : Int) from rfl) (fun _ => ?_) (fun q => absurd (fun z => hz (nI_inj (b := 0) (by omega) (by omega) z)) q)
      refine fst1_ok X (dk rfl) rfl ?_
      exact reti_ok X hr hlk (bI_n false) (dk rfl) (⟨⟨false, rfl, ⟨fun z => (by cases z), fun z => absurd (hu.mpr z) hz⟩⟩, rfl⟩) (Nat.le_of_ble_eq_true rfl) (Nat.le_of_ble_eq_true rfl)
  have outer : ∀ (d r mk u : Nat), d + r = 32 → mk < 2 ^ 32 → u ≤ 32 → CLI X1 k mk → (u = 0 → ∀ p, p < X1.length → bt mk (k p)) → (AcK X1 k → u = 0 ∨ r ≤ cnM X1 k mk) → ∀ l : List (Nat × Value), lsel l [5, 4, 3, 1, 0] = [(5, vI r), (4, vI u), (3, vI X1.length), (1, .long (nL mk)), (0, .ref (P 5))] → WR p la e (rmD 3 0 0) s m args below meth c D cA B0 7 (fun v h' => (∃ b : Bool, v = some (.int (bI b)) ∧ (b = true ↔ AcK X1 k)) ∧ h' = h) 21 l [] h 0 0 := by
    intro d
    induction d with
    | zero =>
      intro r mk u hdr hm hu C h0 hA l hl
      have hr : r = 32 := by omega
      subst hr
      have hle := cnM_le (X := X1) G.1 hn1 hn0 mk
      refine WS.sel [5, 4, 3, 1, 0] hl ?_
      iterate 2 refine fst1_ok X (dk rfl) rfl ?_
      refine br_ok X (dk rfl) rfl (show ((25 : Nat) : Int) + 65 = ((90 : Nat) : Int) from rfl) (fun _ => ?_) (fun q => absurd (by rw [nI_32']; exact Int32.le_refl _) q)
      exact out u hu ⟨fun z => C.ac (h0 z), fun z => (hA z).elim id (fun w => by omega)⟩ _ rfl
    | succ d ih =>
      intro r mk0 u0 hdr hm0 hu0 C0 h00 hA0 l hl
      refine WS.sel [5, 4, 3, 1, 0] hl ?_
      iterate 2 refine fst1_ok X (dk rfl) rfl ?_
      refine br_ok X (dk rfl) rfl (show ((25 : Nat) : Int) + 65 = ((90 : Nat) : Int) from rfl) (fun q => absurd q (by rw [nI_32']; exact nI_ge (by omega) (by omega))) (fun _ => ?_)
      refine fst1_ok X (dk rfl) rfl ?_
      rcases Nat.eq_zero_or_pos u0 with hz | hz
      · subst hz
        refine br_ok X (dk rfl) rfl (show ((30 : Nat) : Int) + 60 = ((90 : Nat) : Int) from rfl) (fun _ => ?_) (fun q => absurd (show nI 0 ≤ 0 by decide) q)
        exact out 0 (Nat.zero_le _) ⟨fun z => C0.ac (h00 z), fun _ => rfl⟩ _ rfl
      · refine br_ok X (dk rfl) rfl (show ((30 : Nat) : Int) + 60 = ((90 : Nat) : Int) from rfl) (fun q => absurd q (nI_nle hz (by omega))) (fun _ => ?_)
        have fr : Value.int (nI r + Int32.ofInt 1) = vI (r + 1) := congrArg Value.int (by rw [nI_1', nI_add])
        have inner : ∀ (w i mk u : Nat), w + i = X1.length → mk < 2 ^ 32 → u ≤ i → (∀ y, bt mk0 y → bt mk y) → CLI X1 k mk → (u = 0 → ∀ p, p < i → bt mk (k p)) → (∀ p, p < i → clr X1 k hd mk0 (k p) → bt mk (k p)) → ((∀ p, p < X1.length → clr X1 k hd mk0 (k p)) → u = 0) → ∀ l : List (Nat × Value), lsel l [6, 5, 4, 3, 1, 0] = [(6, vI i), (5, vI r), (4, vI u), (3, vI X1.length), (1, .long (nL mk)), (0, .ref (P 5))] → WR p la e (rmD 3 0 0) s m args below meth c D cA B0 7 (fun v h' => (∃ b : Bool, v = some (.int (bI b)) ∧ (b = true ↔ AcK X1 k)) ∧ h' = h) 39 l [] h 0 0 := by
          intro w
          induction w with
          | zero =>
            intro i mk u hi hm hui hsub C hA hB hC l hl
            have hin : i = X1.length := by omega
            subst hin
            refine WS.sel [6, 5, 4, 3, 1, 0] hl ?_
            iterate 2 refine fst1_ok X (dk rfl) rfl ?_
            refine br_ok X (dk rfl) rfl (show ((42 : Nat) : Int) + 42 = ((84 : Nat) : Int) from rfl) (fun _ => ?_) (fun q => absurd (Int32.le_refl _) q)
            refine fst1_ok X (dk rfl) rfl ?_
            refine br_ok X (dk rfl) rfl (show ((87 : Nat) : Int) + (-66) = ((21 : Nat) : Int) from rfl) (fun _ => ?_) (fun q => absurd trivial q)
            refine WS.sel (l' := [(5, vI (r + 1)), (4, vI u), (3, vI X1.length), (1, .long (nL mk)), (0, .ref (P 5))]) [5, 4, 3, 1, 0] (by rw [← fr]; rfl) ?_
            refine ih (r + 1) mk u (by omega) hm (by omega) C hA (fun ac => ?_) _ rfl
            by_cases hall : ∀ p, p < X1.length → bt mk0 (k p)
            · refine Or.inl (hC (fun p hp a ea j hj => ?_))
              obtain ⟨x1, x2, x3⟩ := H.2.2.1 p hp a ea
              exact hall _ (ko_mono hX x1 hj).2.2.2.2
            · refine Or.inr ?_
              obtain ⟨p, cc⟩ := Classical.not_forall.mp hall
              obtain ⟨hp, cc⟩ := Classical.not_imp.mp cc
              obtain ⟨rk, q1, q2⟩ := ac
              obtain ⟨p', g1, g2, g3⟩ := clr_ex H q1 q2 (fun p hp j hj => (ko_mono hX hp hj).2.2.2.2) (m := mk0) (rk p + 1) p (Nat.lt_succ_self _) hp cc
              obtain ⟨y1, y2⟩ := H.2.1 p' g1
              have g4 := cnM_lt (X := X1) hsub y1 y2 g2 (hB p' g1 g3)
              have := (hA0 ⟨rk, q1, q2⟩).resolve_left (by omega)
              omega
          | succ w ihw =>
            intro i mk u hi hm hui hsub C hA hB hC l hl
            have fi : Value.int (nI i + Int32.ofInt 1) = vI (i + 1) := congrArg Value.int (by rw [nI_1', nI_add])
            have hil : i < X1.length := by omega
            have hki := kb i hil
            refine WS.sel [6, 5, 4, 3, 1, 0] hl ?_
            iterate 2 refine fst1_ok X (dk rfl) rfl ?_
            refine br_ok X (dk rfl) rfl (show ((42 : Nat) : Int) + 42 = ((84 : Nat) : Int) from rfl) (fun q => absurd q (nI_ge (by omega) (by omega))) (fun _ => ?_)
            iterate 2 refine fst1_ok X (dk rfl) rfl ?_
            refine getf_ok X flX1_20 (dk rfl) t3 rfl ?_
            refine fst1_ok X (dk rfl) rfl ?_
            refine ald7v_ok X (dk rfl) r1 (nI_pos (by omega)) (by rw [nI_clamp (by omega)]; exact r3 i (by omega)) ?_
            rw [show nK k i = nI (k i) from rfl]
            refine fst1_ok X (dk rfl) rfl ?_
            refine callVR_ok (ci := 3) (T := TX1) (N := 5) (av := [vI (k i), .long (nL mk)]) (r := []) X E (s1_isClear h T hX (z := k i) hki hkb (fun a ea => (H.2.2.1 i hil a ea).1)) lkX1_isClear mlX1_107 lmX1_isClear lpX1_isClear ⟨Nat.le_of_ble_eq_true rfl, Nat.le_of_ble_eq_true rfl⟩ ⟨Nat.le_of_ble_eq_true rfl, Nat.le_of_ble_eq_true rfl⟩ rfl ⟨_, t3⟩ (Nat.le_of_ble_eq_true rfl) (dk rfl) ?_
            rintro _ ⟨b, rfl, hb⟩
            cases b with
            | true =>
              refine br_ok X (dk rfl) rfl (show ((57 : Nat) : Int) + 18 = ((75 : Nat) : Int) from rfl) (fun q => absurd q bI_t) (fun _ => ?_)
              iterate 3 refine fst1_ok X (dk rfl) rfl ?_
              refine getf_ok X flX1_20 (dk rfl) t3 rfl ?_
              refine fst1_ok X (dk rfl) rfl ?_
              refine ald7v_ok X (dk rfl) r1 (nI_pos (by omega)) (by rw [nI_clamp (by omega)]; exact r3 i (by omega)) ?_
              rw [show nK k i = nI (k i) from rfl]
              iterate 3 refine fst1_ok X (dk rfl) rfl ?_
              rw [show (nL mk ||| (Int64.ofNat ((1 : Fin 2) : Nat) <<< ((nI (k i)).toInt64 &&& 63))) = nL (mk ||| 2 ^ k i) by rw [show Int64.ofNat ((1 : Fin 2) : Nat) = nL 1 from rfl, nL_shl _ hki, nL_or]]
              refine br_ok X (dk rfl) rfl (show ((72 : Nat) : Int) + 6 = ((78 : Nat) : Int) from rfl) (fun _ => ?_) (fun q => absurd trivial q)
              refine fst1_ok X (dk rfl) rfl ?_
              refine br_ok X (dk rfl) rfl (show ((81 : Nat) : Int) + (-42) = ((39 : Nat) : Int) from rfl) (fun _ => ?_) (fun q => absurd trivial q)
              refine WS.sel (l' := [(6, vI (i + 1)), (5, vI r), (4, vI u), (3, vI X1.length), (1, .long (nL (mk ||| 2 ^ k i))), (0, .ref (P 5))]) [6, 5, 4, 3, 1, 0] (by rw [← fi]; rfl) ?_
              have hclr : clr X1 k hd mk (k i) := hb.mp rfl
              exact ihw (i + 1) (mk ||| 2 ^ k i) u (by omega) (Nat.or_lt_two_pow hm (Nat.pow_lt_pow_right (by decide) hki)) (by omega) (fun y hy => bt_st.mpr (Or.inl (hsub y hy))) (C.add H G hil hclr) (fun z p hp => by
                rcases Nat.lt_or_ge p i with c1 | c1
                · exact bt_st.mpr (Or.inl (hA z p c1))
                · rw [show p = i by omega]
                  exact bt_st.mpr (Or.inr rfl)) (fun p hp z => by
                rcases Nat.lt_or_ge p i with c1 | c1
                · exact bt_st.mpr (Or.inl (hB p c1 z))
                · rw [show p = i by omega]
                  exact bt_st.mpr (Or.inr rfl)) hC _ rfl
            | false =>
              have fu : Value.int (nI u + Int32.ofInt 1) = vI (u + 1) := congrArg Value.int (by rw [nI_1', nI_add])
              refine br_ok X (dk rfl) rfl (show ((57 : Nat) : Int) + 18 = ((75 : Nat) : Int) from rfl) (fun _ => ?_) (fun q => absurd bI_f' q)
              refine fst1_ok X (dk rfl) rfl ?_
              refine fst1_ok X (dk rfl) rfl ?_
              refine br_ok X (dk rfl) rfl (show ((81 : Nat) : Int) + (-42) = ((39 : Nat) : Int) from rfl) (fun _ => ?_) (fun q => absurd trivial q)
              refine WS.sel (l' := [(6, vI (i + 1)), (5, vI r), (4, vI (u + 1)), (3, vI X1.length), (1, .long (nL mk)), (0, .ref (P 5))]) [6, 5, 4, 3, 1, 0] (by rw [← fi, ← fu]; rfl) ?_
              have hno : ¬ clr X1 k hd mk (k i) := fun z => by have := hb.mpr z; cases this
              have hno0 : ¬ clr X1 k hd mk0 (k i) := fun z => hno (fun a ea j hj => hsub _ (z a ea j hj))
              exact ihw (i + 1) mk (u + 1) (by omega) hm (by omega) hsub C (fun z => by omega) (fun p hp z => by
                rcases Nat.lt_or_ge p i with c1 | c1
                · exact hB p c1 z
                · rw [show p = i by omega] at z
                  exact absurd z hno0) (fun z => absurd (z i hil) hno0) _ rfl
        iterate 4 refine fst1_ok X (dk rfl) rfl ?_
        exact inner X1.length 0 mk0 0 (Nat.add_zero _) hm0 (Nat.le_refl _) (fun y hy => hy) C0 (fun _ p hp => absurd hp (Nat.not_lt_zero p)) (fun p hp => absurd hp (Nat.not_lt_zero p)) (fun _ => rfl) _ rfl
  iterate 3 refine fst1_ok X (dk rfl) rfl ?_
  refine getf_ok X flX1_16 (dk rfl) t3 rfl ?_
  refine callVR_ok (ci := 7) (T := TX5) (N := 3) (av := []) (r := []) X E (s5_length h t1 (i := 51) (by omega)) lkX5_length mlX1_55 lmX5_length lpX5_length ⟨Nat.le_of_ble_eq_true rfl, Nat.le_of_ble_eq_true rfl⟩ ⟨Nat.le_of_ble_eq_true rfl, Nat.le_of_ble_eq_true rfl⟩ rfl ⟨_, (t1 51 (by omega)).2.1⟩ (Nat.le_of_ble_eq_true rfl) (dk rfl) ?_
  rintro _ rfl
  rw [t2.len]
  refine fst1_ok X (dk rfl) rfl ?_
  rw [nI_32']
  refine mmin7_ok X hX32 mlX1_101 (dk rfl) (by decide) (Nat.le_of_ble_eq_true rfl) (Nat.le_of_ble_eq_true rfl) (Nat.le_of_ble_eq_true rfl) ?_
  iterate 5 refine fst1_ok X (dk rfl) rfl ?_
  refine outer 32 0 0 X1.length rfl (by decide) hX32 ⟨fun _ => 0, 1, fun _ _ => Nat.zero_lt_one, fun p hp h => ?_⟩ (fun z => by omega) (fun _ => Or.inr (Nat.zero_le _)) _ rfl
  unfold bt at h
  rw [Nat.zero_shiftRight] at h
  cases h
set_option maxHeartbeats 32000000 in
theorem s1_placeFor (h : AH) {k : Nat → Nat} {hd : Nat → Option Nat} (T : CTG B Q P h F X1 (nK k) (pK hd) f3 ps) (hX : BX X1) (H : HDP X1 k hd) {x : Nat} (hx : x < 8) : CT la D cA B0 pa yX1_placeFor cX1_placeFor 6 (some .int) (rmD 2 0 0) [.ref (P 5), vI x] h (fun v h' => (∃ oo : Option Nat, v = some (.int (pI oo)) ∧ PFO X1 k hd x oo) ∧ h' = h) := by
  refine CT_of (by decide +kernel) (Nat.le_of_ble_eq_true rfl) ?_
  intro p e s m args below meth c X E hr hlk hnm
  have dk : ∀ {pc : Nat} {q : Instr × Nat}, lkd DX1_placeFor pc = some q → decode cX1_placeFor pc = .ok q := lkd_ok DX1_placeFor_ok
  have hX32 := hX.2.2
  obtain ⟨t1, t2, t3, ⟨row, r1, r2, r3⟩, t5, t6, t7⟩ := id T
  have hkb := H.1
  have ecs : ∀ z, hd z = none ∨ ∃ a, hd z = some a := fun z => by cases hd z with | none => exact Or.inl rfl | some a => exact Or.inr ⟨a, rfl⟩
  refine fst1_ok X (dk rfl) rfl ?_
  refine getf_ok X flX1_16 (dk rfl) t3 rfl ?_
  refine fst1_ok X (dk rfl) rfl ?_
  refine callVR_ok (ci := 7) (T := TX5) (N := 3) (av := [vI x]) (r := []) X E (s5_firstPlaceOf h t1 (i := 51) (by omega) t2 (x := x) (by omega)) lkX5_firstPlaceOf mlX1_117 lmX5_firstPlaceOf lpX5_firstPlaceOf ⟨Nat.le_of_ble_eq_true rfl, Nat.le_of_ble_eq_true rfl⟩ ⟨Nat.le_of_ble_eq_true rfl, Nat.le_of_ble_eq_true rfl⟩ rfl ⟨_, (t1 51 (by omega)).2.1⟩ (Nat.le_of_ble_eq_true rfl) (dk rfl) ?_
  rintro _ rfl
  by_cases hm : x ∈ X1
  · have f1 := fpN_mem hm
    have f2 : gl X1 (fpN x X1) = x := fpN_at hm
    rw [if_pos f1]
    iterate 3 refine fst1_ok X (dk rfl) rfl ?_
    refine callVR_ok (ci := 3) (T := TX1) (N := 5) (av := [vI (fpN x X1)]) (r := []) X E (s1_classAt h T (z := fpN x X1) (by omega)) lkX1_classAt mlX1_68 lmX1_classAt lpX1_classAt ⟨Nat.le_of_ble_eq_true rfl, Nat.le_of_ble_eq_true rfl⟩ ⟨Nat.le_of_ble_eq_true rfl, Nat.le_of_ble_eq_true rfl⟩ rfl ⟨_, t3⟩ (Nat.le_of_ble_eq_true rfl) (dk rfl) ?_
    rintro _ rfl
    rw [show nK k (fpN x X1) = nI (k (fpN x X1)) from rfl]
    have hkc := hkb (fpN x X1) (by omega)
    iterate 3 refine fst1_ok X (dk rfl) rfl ?_
    refine br_ok X (dk rfl) rfl (show ((17 : Nat) : Int) + 12 = ((29 : Nat) : Int) from rfl) (fun q => absurd q (nI_m1 (by omega))) (fun _ => ?_)
    iterate 2 refine fst1_ok X (dk rfl) rfl ?_
    refine callVR_ok (ci := 3) (T := TX1) (N := 5) (av := [vI (k (fpN x X1))]) (r := []) X E (s1_headAt h T (z := k (fpN x X1)) hkc) lkX1_headAt mlX1_94 lmX1_headAt lpX1_headAt ⟨Nat.le_of_ble_eq_true rfl, Nat.le_of_ble_eq_true rfl⟩ ⟨Nat.le_of_ble_eq_true rfl, Nat.le_of_ble_eq_true rfl⟩ rfl ⟨_, t3⟩ (Nat.le_of_ble_eq_true rfl) (dk rfl) ?_
    rintro _ rfl
    refine fst1_ok X (dk rfl) rfl ?_
    rcases ecs (k (fpN x X1)) with el | ⟨a, el⟩
    · refine br_ok X (dk rfl) rfl (show ((26 : Nat) : Int) + 9 = ((35 : Nat) : Int) from rfl) (fun _ => ?_) (fun q => absurd (show pI (hd (k (fpN x X1))) = Int32.ofInt (-1) by rw [el]; rfl) q)
      have loop : ∀ (u i z : Nat), u + i = X1.length → z < X1.length → k z = k (fpN x X1) → gl X1 z ≤ x → (∀ y, y < i → k y = k (fpN x X1) → gl X1 z ≤ gl X1 y) → ∀ l : List (Nat × Value), lsel l [5, 4, 3, 1, 0] = [(5, vI i), (4, vI z), (3, vI (k (fpN x X1))), (1, vI x), (0, .ref (P 5))] → WR p la e (rmD 2 0 0) s m args below meth c D cA B0 6 (fun v h' => (∃ oo : Option Nat, v = some (.int (pI oo)) ∧ PFO X1 k hd x oo) ∧ h' = h) 41 l [] h 0 0 := by
        intro u
        induction u with
        | zero =>
          intro i z hi hz ez hzx hall l hl
          have hin : i = X1.length := by omega
          subst hin
          have hgz := gl_get hz
          have ltz := (gl_ok hX hz).lt
          refine WS.sel [5, 4, 3, 1, 0] hl ?_
          iterate 2 refine fst1_ok X (dk rfl) rfl ?_
          refine getf_ok X flX1_16 (dk rfl) t3 rfl ?_
          refine callVR_ok (ci := 7) (T := TX5) (N := 3) (av := []) (r := [vI X1.length]) X E (s5_length h t1 (i := 51) (by omega)) lkX5_length mlX1_55 lmX5_length lpX5_length ⟨Nat.le_of_ble_eq_true rfl, Nat.le_of_ble_eq_true rfl⟩ ⟨Nat.le_of_ble_eq_true rfl, Nat.le_of_ble_eq_true rfl⟩ rfl ⟨_, (t1 51 (by omega)).2.1⟩ (Nat.le_of_ble_eq_true rfl) (dk rfl) ?_
          rintro _ rfl
          rw [t2.len]
          refine br_ok X (dk rfl) rfl (show ((50 : Nat) : Int) + 52 = ((102 : Nat) : Int) from rfl) (fun _ => ?_) (fun q => absurd (Int32.le_refl _) q)
          refine fst1_ok X (dk rfl) rfl ?_
          refine getf_ok X flX1_16 (dk rfl) t3 rfl ?_
          refine fst1_ok X (dk rfl) rfl ?_
          refine callVR_ok (ci := 7) (T := TX5) (N := 3) (av := [vI z]) (r := []) X E (s5_letterAt h t1 (i := 51) (by omega) (nI z)) lkX5_letterAt mlX1_45 lmX5_letterAt lpX5_letterAt ⟨Nat.le_of_ble_eq_true rfl, Nat.le_of_ble_eq_true rfl⟩ ⟨Nat.le_of_ble_eq_true rfl, Nat.le_of_ble_eq_true rfl⟩ rfl ⟨_, (t1 51 (by omega)).2.1⟩ (Nat.le_of_ble_eq_true rfl) (dk rfl) ?_
          rintro _ rfl
          rw [t2.lt hgz (by omega)]
          refine fst1_ok X (dk rfl) rfl ?_
          by_cases hzz : gl X1 z = x
          · refine br_ok X (dk rfl) rfl (show ((112 : Nat) : Int) + 7 = ((119 : Nat) : Int) from rfl) (fun q => absurd (by rw [hzz]) q) (fun _ => ?_)
            refine fst1_ok X (dk rfl) rfl ?_
            refine br_ok X (dk rfl) rfl (show ((116 : Nat) : Int) + 5 = ((121 : Nat) : Int) from rfl) (fun _ => ?_) (fun q => absurd trivial q)
            exact reti_ok X hr hlk rfl (dk rfl) (⟨⟨none, rfl, Or.inl ⟨rfl, Or.inr ⟨hm, el, fun y hy ey => by rw [← hzz]; exact hall y hy ey⟩⟩⟩, rfl⟩) (Nat.le_of_ble_eq_true rfl) (Nat.le_of_ble_eq_true rfl)
          · refine br_ok X (dk rfl) rfl (show ((112 : Nat) : Int) + 7 = ((119 : Nat) : Int) from rfl) (fun _ => ?_) (fun q => absurd (fun w => hzz (nI_inj (by omega) (by omega) w)) q)
            refine fst1_ok X (dk rfl) rfl ?_
            exact reti_ok X hr hlk rfl (dk rfl) (⟨⟨some z, rfl, Or.inr ⟨z, rfl, hm, hz, ez, Or.inr ⟨el, by omega, hall⟩⟩⟩, rfl⟩) (Nat.le_of_ble_eq_true rfl) (Nat.le_of_ble_eq_true rfl)
        | succ u ih =>
          intro i z hi hz ez hzx hall l hl
          have hil : i < X1.length := by omega
          have hgz := gl_get hz
          have ltz := (gl_ok hX hz).lt
          have hgi := gl_get hil
          have lti := (gl_ok hX hil).lt
          have hki := hkb i (by omega)
          have fi : Value.int (nI i + Int32.ofInt 1) = vI (i + 1) := congrArg Value.int (by rw [nI_1', nI_add])
          have nxt : ∀ z2 : Nat, z2 < X1.length → k z2 = k (fpN x X1) → gl X1 z2 ≤ x → (∀ y, y < i + 1 → k y = k (fpN x X1) → gl X1 z2 ≤ gl X1 y) → ∀ l : List (Nat × Value), lsel l [5, 4, 3, 1, 0] = [(5, vI i), (4, vI z2), (3, vI (k (fpN x X1))), (1, vI x), (0, .ref (P 5))] → WR p la e (rmD 2 0 0) s m args below meth c D cA B0 6 (fun v h' => (∃ oo : Option Nat, v = some (.int (pI oo)) ∧ PFO X1 k hd x oo) ∧ h' = h) 96 l [] h 0 0 := by
            intro z2 k1 k2 k3 k4 l hl
            refine WS.sel [5, 4, 3, 1, 0] hl ?_
            refine fst1_ok X (dk rfl) rfl ?_
            refine br_ok X (dk rfl) rfl (show ((99 : Nat) : Int) + (-58) = ((41 : Nat) : Int) from rfl) (fun _ => ?_) (fun q => absurd trivial q)
            refine WS.sel (l' := [(5, vI (i + 1)), (4, vI z2), (3, vI (k (fpN x X1))), (1, vI x), (0, .ref (P 5))]) [5, 4, 3, 1, 0] (by rw [← fi]; rfl) ?_
            exact ih (i + 1) z2 (by omega) k1 k2 k3 k4 _ rfl
          refine WS.sel [5, 4, 3, 1, 0] hl ?_
          iterate 2 refine fst1_ok X (dk rfl) rfl ?_
          refine getf_ok X flX1_16 (dk rfl) t3 rfl ?_
          refine callVR_ok (ci := 7) (T := TX5) (N := 3) (av := []) (r := [vI i]) X E (s5_length h t1 (i := 51) (by omega)) lkX5_length mlX1_55 lmX5_length lpX5_length ⟨Nat.le_of_ble_eq_true rfl, Nat.le_of_ble_eq_true rfl⟩ ⟨Nat.le_of_ble_eq_true rfl, Nat.le_of_ble_eq_true rfl⟩ rfl ⟨_, (t1 51 (by omega)).2.1⟩ (Nat.le_of_ble_eq_true rfl) (dk rfl) ?_
          rintro _ rfl
          rw [t2.len]
          refine br_ok X (dk rfl) rfl (show ((50 : Nat) : Int) + 52 = ((102 : Nat) : Int) from rfl) (fun q => absurd q (nI_ge (by omega) (by omega))) (fun _ => ?_)
          iterate 2 refine fst1_ok X (dk rfl) rfl ?_
          refine br_ok X (dk rfl) rfl (show ((57 : Nat) : Int) + 45 = ((102 : Nat) : Int) from rfl) (fun q => absurd q (by rw [nI_32']; exact nI_ge (by omega) (by omega))) (fun _ => ?_)
          refine fst1_ok X (dk rfl) rfl ?_
          refine getf_ok X flX1_20 (dk rfl) t3 rfl ?_
          refine fst1_ok X (dk rfl) rfl ?_
          refine ald7v_ok X (dk rfl) r1 (nI_pos (by omega)) (by rw [nI_clamp (by omega)]; exact r3 i (by omega)) ?_
          rw [show nK k i = nI (k i) from rfl]
          refine fst1_ok X (dk rfl) rfl ?_
          by_cases ek : k i = k (fpN x X1)
          · refine br_ok X (dk rfl) rfl (show ((68 : Nat) : Int) + 28 = ((96 : Nat) : Int) from rfl) (fun q => absurd (by rw [ek]) q) (fun _ => ?_)
            refine fst1_ok X (dk rfl) rfl ?_
            refine getf_ok X flX1_16 (dk rfl) t3 rfl ?_
            refine fst1_ok X (dk rfl) rfl ?_
            refine callVR_ok (ci := 7) (T := TX5) (N := 3) (av := [vI i]) (r := []) X E (s5_letterAt h t1 (i := 51) (by omega) (nI i)) lkX5_letterAt mlX1_45 lmX5_letterAt lpX5_letterAt ⟨Nat.le_of_ble_eq_true rfl, Nat.le_of_ble_eq_true rfl⟩ ⟨Nat.le_of_ble_eq_true rfl, Nat.le_of_ble_eq_true rfl⟩ rfl ⟨_, (t1 51 (by omega)).2.1⟩ (Nat.le_of_ble_eq_true rfl) (dk rfl) ?_
            rintro _ rfl
            rw [t2.lt hgi (by omega)]
            refine fst1_ok X (dk rfl) rfl ?_
            refine getf_ok X flX1_16 (dk rfl) t3 rfl ?_
            refine fst1_ok X (dk rfl) rfl ?_
            refine callVR_ok (ci := 7) (T := TX5) (N := 3) (av := [vI z]) (r := [vI (gl X1 i)]) X E (s5_letterAt h t1 (i := 51) (by omega) (nI z)) lkX5_letterAt mlX1_45 lmX5_letterAt lpX5_letterAt ⟨Nat.le_of_ble_eq_true rfl, Nat.le_of_ble_eq_true rfl⟩ ⟨Nat.le_of_ble_eq_true rfl, Nat.le_of_ble_eq_true rfl⟩ rfl ⟨_, (t1 51 (by omega)).2.1⟩ (Nat.le_of_ble_eq_true rfl) (dk rfl) ?_
            rintro _ rfl
            rw [t2.lt hgz (by omega)]
            by_cases hlt : gl X1 i < gl X1 z
            · refine br_ok X (dk rfl) rfl (show ((89 : Nat) : Int) + 7 = ((96 : Nat) : Int) from rfl) (fun q => absurd q (Int32.not_le.mpr ((nI_ltI (by omega) (by omega)).mpr hlt))) (fun _ => ?_)
              iterate 2 refine fst1_ok X (dk rfl) rfl ?_
              exact nxt i hil ek (by omega) (fun y hy ey => by
                rcases Nat.lt_or_ge y i with c1 | c1
                · have := hall y c1 ey
                  omega
                · rw [show y = i by omega]
                  exact Nat.le_refl _) _ rfl
            · refine br_ok X (dk rfl) rfl (show ((89 : Nat) : Int) + 7 = ((96 : Nat) : Int) from rfl) (fun _ => ?_) (fun q => absurd ((nI_leI (by omega) (by omega)).mpr (by omega)) q)
              exact nxt z hz ez hzx (fun y hy ey => by
                rcases Nat.lt_or_ge y i with c1 | c1
                · exact hall y c1 ey
                · rw [show y = i by omega]
                  omega) _ rfl
          · refine br_ok X (dk rfl) rfl (show ((68 : Nat) : Int) + 28 = ((96 : Nat) : Int) from rfl) (fun _ => ?_) (fun q => absurd (fun z => ek (nI_inj (by omega) (by omega) z)) q)
            exact nxt z hz ez hzx (fun y hy ey => by
              rcases Nat.lt_or_ge y i with c1 | c1
              · exact hall y c1 ey
              · rw [show y = i by omega] at ey
                exact absurd ey ek) _ rfl
      iterate 4 refine fst1_ok X (dk rfl) rfl ?_
      exact loop X1.length 0 (fpN x X1) (Nat.add_zero _) f1 rfl (by omega) (fun y hy => absurd hy (Nat.not_lt_zero y)) _ rfl
    · have ha := H.2.2.1 _ f1 a el
      refine br_ok X (dk rfl) rfl (show ((26 : Nat) : Int) + 9 = ((35 : Nat) : Int) from rfl) (fun q => absurd q (show pI (hd (k (fpN x X1))) ≠ Int32.ofInt (-1) by rw [el]; exact nI_m1 (by omega))) (fun _ => ?_)
      iterate 2 refine fst1_ok X (dk rfl) rfl ?_
      refine callVR_ok (ci := 3) (T := TX1) (N := 5) (av := [vI (k (fpN x X1))]) (r := []) X E (s1_headAt h T (z := k (fpN x X1)) hkc) lkX1_headAt mlX1_94 lmX1_headAt lpX1_headAt ⟨Nat.le_of_ble_eq_true rfl, Nat.le_of_ble_eq_true rfl⟩ ⟨Nat.le_of_ble_eq_true rfl, Nat.le_of_ble_eq_true rfl⟩ rfl ⟨_, t3⟩ (Nat.le_of_ble_eq_true rfl) (dk rfl) ?_
      rintro _ rfl
      exact reti_ok X hr hlk rfl (dk rfl) (⟨⟨some a, by rw [← el], Or.inr ⟨a, rfl, hm, ha.1, ha.2.2, Or.inl el⟩⟩, rfl⟩) (Nat.le_of_ble_eq_true rfl) (Nat.le_of_ble_eq_true rfl)
  · rw [if_neg (fun z => hm (by
      have := List.getElem_mem z
      have e2 : X1[fpN x X1] = x := by
        have key : ∀ ys : List Nat, ∀ hh : fpN x ys < ys.length, ys[fpN x ys] = x := by
          intro ys
          induction ys with
          | nil => intro hh; exact absurd hh (Nat.not_lt_zero _)
          | cons y r ih =>
            intro hh
            by_cases c : y = x
            · subst c
              simp [fpN_eq]
            · have e := fpN_ne c r
              simp only [e] at hh ⊢
              simpa using ih (by simpa using hh)
        exact key X1 z
      rw [e2] at this
      exact this))]
    iterate 3 refine fst1_ok X (dk rfl) rfl ?_
    refine callVR_ok (ci := 3) (T := TX1) (N := 5) (av := [.int (Int32.ofInt (-1))]) (r := []) X E (s1_classAtN h T) lkX1_classAt mlX1_68 lmX1_classAt lpX1_classAt ⟨Nat.le_of_ble_eq_true rfl, Nat.le_of_ble_eq_true rfl⟩ ⟨Nat.le_of_ble_eq_true rfl, Nat.le_of_ble_eq_true rfl⟩ rfl ⟨_, t3⟩ (Nat.le_of_ble_eq_true rfl) (dk rfl) ?_
    rintro _ rfl
    iterate 3 refine fst1_ok X (dk rfl) rfl ?_
    refine br_ok X (dk rfl) rfl (show ((17 : Nat) : Int) + 12 = ((29 : Nat) : Int) from rfl) (fun _ => ?_) (fun q => absurd rfl q)
    iterate 2 refine fst1_ok X (dk rfl) rfl ?_
    refine callVR_ok (ci := 3) (T := TX1) (N := 5) (av := [.int (Int32.ofInt (-1))]) (r := []) X E (s1_headAtN h T) lkX1_headAt mlX1_94 lmX1_headAt lpX1_headAt ⟨Nat.le_of_ble_eq_true rfl, Nat.le_of_ble_eq_true rfl⟩ ⟨Nat.le_of_ble_eq_true rfl, Nat.le_of_ble_eq_true rfl⟩ rfl ⟨_, t3⟩ (Nat.le_of_ble_eq_true rfl) (dk rfl) ?_
    rintro _ rfl
    exact reti_ok X hr hlk rfl (dk rfl) (⟨⟨none, rfl, Or.inl ⟨rfl, Or.inl hm⟩⟩, rfl⟩) (Nat.le_of_ble_eq_true rfl) (Nat.le_of_ble_eq_true rfl)
/-- an answer by classes -/
def wcC (B Q P : Nat → Nat) (F : Nat → TC) (X : List Nat) (k : Nat → Nat) (f1 f2 : Nat → Int32) (ps : PL2) (f : Nat) (h : AH) (v : Option Value) (h' : AH) : Prop := v = none ∧ FrU B Q (LCl P Q) h h' ∧ ∃ (S : SS) (E : Nat → List Nat) (G : Nat → TC) (f3 : Nat → Int32), SKP X k S ∧ ExP X S E ∧ CTG B Q P h' (upK F f G 8) X f1 f2 f3 ps ∧ ∀ n, n < 8 → RP16 (G n) (E n)
theorem CTG.tm {B Q P : Nat → Nat} {h h' : AH} {F F' : Nat → TC} {X : List Nat} {f1 f2 f3 : Nat → Int32} {ps : PL2} (Y : LYO B Q) (T : CTG B Q P h F X f1 f2 f3 ps) (S' : TS B Q h' F') (e : F' 51 = F 51) (x : FrT B Q h h') : CTG B Q P h' F' X f1 f2 f3 ps := by
  obtain ⟨t1, t2, t3, t4, t5, t6, t7⟩ := T
  have kp : ∀ {j N : Nat} {g : Nat → Int32}, 60 ≤ j → j < 70 → RW1 h (Q j) N g → RW1 h' (Q j) N g := fun {j N g} h1 h2 ⟨row, r1, r2⟩ => ⟨row, by
    rw [x (Q j) (fun i hi => ⟨k_ne r1 (t1 i hi).2.1 (by decide), Yne Y h2 (by omega) (by omega)⟩)]
    exact r1, r2⟩
  exact ⟨S', by rw [e]; exact t2, x.keep t1 t3 (by decide) (by decide), kp (by decide) (by decide) t4, kp (by decide) (by decide) t5, kp (by decide) (by decide) t6, t7.frT t1 (hAq Y (by decide) (by decide) (by decide) (by decide)) x⟩
set_option maxHeartbeats 32000000 in
theorem s1_tellInto (h : AH) (Y : LYO B Q) {n1 : Nat} {k : Nat → Nat} {hd : Nat → Option Nat} (T : CTG B Q P h F X1 (nK k) (pK hd) f3 ps) (hY : BY X1 n1) (H : HDP X1 k hd) (G : GdK X1 n1 k) (A : AcK X1 k) {oo f : Nat} (O : AnO B h oo f) (hrm : ∀ n, n < 8 → rmI (f + n) = 16) : CT la D cA B0 pa yX1_tellInto cX1_tellInto 3 none (rmD 4 0 0) [.ref (P 5), .ref oo] h (wcC B Q P F X1 k (nK k) (pK hd) ps f h) := by
  refine CT_of (by decide +kernel) (Nat.le_of_ble_eq_true rfl) ?_
  intro p e s m args below meth c X E hr hlk hnm
  have dk : ∀ {pc : Nat} {q : Instr × Nat}, lkd DX1_tellInto pc = some q → decode cX1_tellInto pc = .ok q := lkd_ok DX1_tellInto_ok
  have hX := hY.1
  have hX32 := hX.2.2
  have hO := O.1
  have loop : ∀ (u i : Nat) (h1 : AH) (S : SS) (g : Nat → Int32), u + i = 8 → (∀ x, 8 ≤ x → S x = none) → (∀ x, x < i → PFO X1 k hd x (S x)) → CTG B Q P h1 F X1 (nK k) (pK hd) g ps → (∀ x, x < i → g x = pI (S x)) → FrU B Q (LCl P Q) h h1 → AnO B h1 oo f → ∀ l : List (Nat × Value), lsel l [2, 1, 0] = [(2, vI i), (1, .ref oo), (0, .ref (P 5))] → WR p la e (rmD 4 0 0) s m args below meth c D cA B0 3 (wcC B Q P F X1 k (nK k) (pK hd) ps f h) 2 l [] h1 0 0 := by
    intro u
    induction u with
    | zero =>
      intro i h1 S g hi hS8 hPF T1 hg f1 O1 l hl
      have hi8 : i = 8 := by omega
      subst hi8
      obtain ⟨t1, t2, t3, t4, t5, ⟨row3, q1, q2, q3⟩, t7⟩ := id T1
      have hsk := PFO.sk hX H G hS8 hPF
      have hac := hsk.ac hX G A
      obtain ⟨Ex, hE⟩ := ExP.ex hX hsk.s1 hac
      refine WS.sel [2, 1, 0] hl ?_
      iterate 2 refine fst1_ok X (dk rfl) rfl ?_
      refine br_ok X (dk rfl) rfl (show ((5 : Nat) : Int) + 20 = ((25 : Nat) : Int) from rfl) (fun _ => ?_) (fun q => absurd (by rw [nI_8']; exact Int32.le_refl _) q)
      iterate 2 refine fst1_ok X (dk rfl) rfl ?_
      refine getf_ok X flX1_16 (dk rfl) t3 rfl ?_
      refine fst1_ok X (dk rfl) rfl ?_
      refine getf_ok X flX1_27 (dk rfl) t3 rfl ?_
      refine callV_ok (ci := 2) (T := TX0) (N := 1) (av := [.ref (B 51), .ref (Q 63)]) (r := []) X E (s0_becomeWholeOf h1 Y t1 O1 hrm (ib := 51) (by omega) (by omega) hX t2 (R := Q 63) q1 q2 (fun n hn => by rw [q3 n hn, hg n hn]) (fun i hi => Yne Y (by decide) (by omega) (by omega)) hsk.s1 hac hE) lkX0_becomeWholeOf mlX1_88 lmX0_becomeWholeOf lpX0_becomeWholeOf ⟨Nat.le_of_ble_eq_true rfl, Nat.le_of_ble_eq_true rfl⟩ ⟨Nat.le_of_ble_eq_true rfl, Nat.le_of_ble_eq_true rfl⟩ rfl O1.2.choose_spec.1 (Nat.le_of_ble_eq_true rfl) (dk rfl) ?_
      rintro _ h2 ⟨rfl, f2, GG, S2, g2⟩
      exact retv_ok X hr hlk (dk rfl) (⟨rfl, f1.trans (f2.u _), S, Ex, GG, g, hsk, hE, T1.tm Y S2 (upK_out F f _ (by omega)) f2, g2⟩) (Nat.le_of_ble_eq_true rfl) (Nat.le_of_ble_eq_true rfl)
    | succ u ih =>
      intro i h1 S g hi hS8 hPF T1 hg f1 O1 l hl
      obtain ⟨t1, t2, t3, t4, t5, ⟨row3, q1, q2, q3⟩, t7⟩ := id T1
      have fi : Value.int (nI i + Int32.ofInt 1) = vI (i + 1) := congrArg Value.int (by rw [nI_1', nI_add])
      refine WS.sel [2, 1, 0] hl ?_
      iterate 2 refine fst1_ok X (dk rfl) rfl ?_
      refine br_ok X (dk rfl) rfl (show ((5 : Nat) : Int) + 20 = ((25 : Nat) : Int) from rfl) (fun q => absurd q (by rw [nI_8']; exact nI_ge (by omega) (by omega))) (fun _ => ?_)
      refine fst1_ok X (dk rfl) rfl ?_
      refine getf_ok X flX1_27 (dk rfl) t3 rfl ?_
      iterate 3 refine fst1_ok X (dk rfl) rfl ?_
      refine callVR_ok (ci := 3) (T := TX1) (N := 5) (av := [vI i]) (r := [vI i, .ref (Q 63)]) X E (s1_placeFor h1 T1 hX H (x := i) (by omega)) lkX1_placeFor mlX1_85 lmX1_placeFor lpX1_placeFor ⟨Nat.le_of_ble_eq_true rfl, Nat.le_of_ble_eq_true rfl⟩ ⟨Nat.le_of_ble_eq_true rfl, Nat.le_of_ble_eq_true rfl⟩ rfl ⟨_, t3⟩ (Nat.le_of_ble_eq_true rfl) (dk rfl) ?_
      rintro _ ⟨ox, rfl, hpf⟩
      refine ast7_ok X (dk rfl) q1 (nI_pos (by omega)) (by rw [nI_clamp (by omega)]; omega) ?_
      rw [nI_clamp (by omega)]
      have T2 := T1.s3 Y q1 (x := i) (by omega) (pI ox)
      have O2 : AnO B (hup h1 (Q 63) (107, (row3.set i (pI ox)).map Value.int)) oo f := O1.out q1 (by decide) (by decide) _
      refine fst1_ok X (dk rfl) rfl ?_
      refine br_ok X (dk rfl) rfl (show ((22 : Nat) : Int) + (-20) = ((2 : Nat) : Int) from rfl) (fun _ => ?_) (fun q => absurd trivial q)
      refine WS.sel (l' := [(2, vI (i + 1)), (1, .ref oo), (0, .ref (P 5))]) [2, 1, 0] (by rw [← fi]; rfl) ?_
      exact ih (i + 1) _ (fun y => if y = i then ox else S y) _ (by omega) (fun x hx => by
        rw [if_neg (by omega)]
        exact hS8 x hx) (fun x hx => by
        by_cases e9 : x = i
        · rw [if_pos e9, e9]
          exact hpf
        · rw [if_neg e9]
          exact hPF x (by omega)) T2 (fun x hx => by
        unfold up1
        by_cases e9 : x = i
        · rw [if_pos e9, if_pos e9]
        · rw [if_neg e9, if_neg e9]
          exact hg x (by omega)) (f1.set (LCl_q P Q).2.2 _) O2 _ rfl
  iterate 2 refine fst1_ok X (dk rfl) rfl ?_
  exact loop 8 0 h (fun _ => none) f3 rfl (fun x _ => rfl) (fun x hx => absurd hx (Nat.not_lt_zero x)) T (fun x hx => absurd hx (Nat.not_lt_zero x)) (FrU.rf h) O _ rfl
end S22
end Uc22cls2
section Uc23alike2
/-! the class, strongly: two terms made alike by classes (printed by wip/p20/genT9.py) -/
theorem flF_ok (X : List Nat) (z : Nat) : ∀ u i : Nat, u + i = z → flF X z u i ≤ z ∧ sub' X (flF X z u i) = sub' X z ∧ ((∀ y, y < i → sub' X y ≠ sub' X z) → ∀ y, y < flF X z u i → sub' X y ≠ sub' X z) := by
  intro u
  induction u with
  | zero =>
    intro i h
    have e : i = z := by omega
    subst e
    exact ⟨Nat.le_refl _, rfl, fun g => g⟩
  | succ u ih =>
    intro i h
    by_cases c : sub' X i = sub' X z
    · have e : flF X z (u + 1) i = i := if_pos c
      rw [e]
      exact ⟨by omega, c, fun g => g⟩
    · have e : flF X z (u + 1) i = flF X z u (i + 1) := if_neg c
      rw [e]
      obtain ⟨a1, a2, a3⟩ := ih (i + 1) (by omega)
      refine ⟨a1, a2, fun g => a3 (fun y hy => ?_)⟩
      rcases Nat.lt_or_ge y i with c1 | c1
      · exact g y c1
      · rw [show y = i by omega]
        exact c
theorem flX_ok {X : List Nat} {z : Nat} (hz : z < X.length) : flX X z ≤ z ∧ sub' X (flX X z) = sub' X z ∧ ∀ y, y < flX X z → sub' X y ≠ sub' X z := by
  unfold flX
  rw [if_pos hz]
  obtain ⟨a1, a2, a3⟩ := flF_ok X z z 0 (Nat.add_zero _)
  exact ⟨a1, a2, a3 (fun y hy => absurd hy (Nat.not_lt_zero y))⟩
theorem flX_iff {X : List Nat} {y z : Nat} (hy : y < X.length) (hz : z < X.length) : flX X y = flX X z ↔ sub' X y = sub' X z := by
  obtain ⟨a1, a2, a3⟩ := flX_ok hy
  obtain ⟨b1, b2, b3⟩ := flX_ok hz
  constructor
  · intro e
    rw [← a2, e, b2]
  · intro e
    rcases Nat.lt_trichotomy (flX X y) (flX X z) with c | c | c
    · exact absurd (by rw [a2, e]) (b3 _ c)
    · exact c
    · exact absurd (by rw [b2, e]) (a3 _ c)
def hd0 (X : List Nat) (i : Nat) : Option Nat := if i < X.length ∧ 10 ≤ gl X i then some i else none
theorem IC0 {X : List Nat} {n1 : Nat} (hY : BY X n1) : IC X n1 (flX X) (hd0 X) [(0, n1)] := by
  have hX := hY.1
  have hX32 := hX.2.2
  have hn1 := hY.2.2.2.1
  have lt := fun {p : Nat} (hp : p < X.length) => Nat.lt_of_le_of_lt (flX_ok hp).1 hp
  have idm : ∀ p, p < X.length → flX X (flX X p) = flX X p := fun p hp => (flX_iff (lt hp) hp).mpr (flX_ok hp).2.1
  refine ⟨⟨fun i hi => ?_, fun p hp => ⟨lt hp, idm p hp⟩, fun p hp a ha => ?_, fun p hp hg hn => ?_⟩, fun p q hp hq e => (flX_iff hp hq).mpr e, fun p q hp hq e g1 g2 => ?_, fun k' hs hps => hps (0, n1) List.mem_cons_self, fun k' hG => ⟨fun p q hp hq e => hG.2.1 p q hp hq ((flX_iff hp hq).mp e), fun z hz => ?_⟩, fun z hz => ?_⟩
  · rcases Nat.lt_or_ge i X.length with c | c
    · have := lt c
      omega
    · unfold flX
      rw [if_neg (by omega)]
      exact hi
  · unfold hd0 at ha
    by_cases c : flX X p < X.length ∧ 10 ≤ gl X (flX X p)
    · rw [if_pos c] at ha
      cases ha
      exact ⟨c.1, c.2, idm p hp⟩
    · rw [if_neg c] at ha
      cases ha
  · unfold hd0 at hn
    rw [if_pos ⟨lt hp, by rw [(sub_kid hX (lt hp) hp (flX_ok hp).2.1).1]; exact hg⟩] at hn
    cases hn
  · obtain ⟨s1, s2⟩ := sub_kid hX hp hq ((flX_iff hp hq).mp e)
    refine ⟨s1, fun j hj k' hs _ => ?_⟩
    have k1 := (ko_mono hX hp hj).2.2.2.2
    have k2 := (ko_mono hX hq (by rw [← ga_eq s1]; exact hj)).2.2.2.2
    exact hs _ _ k1 k2 ((flX_iff k1 k2).mpr (s2 j hj))
  · rw [List.mem_singleton.mp hz]
    exact hG.1
  · rw [List.mem_singleton.mp hz]
    exact ⟨by show 0 < X.length; omega, hn1⟩
theorem fxK_le (n : Nat) (k : Nat → Nat) : fxK n k ≤ n := by
  have h := sJ_le (f := fun c => if k c = c then 1 else 0) (g := fun _ => 1) (n := n) (fun i _ => by split <;> omega)
  rw [sJ_1] at h
  exact h
theorem RW1.ex {h : AH} {R N : Nat} {xs : List Int32} (e : h R = some (107, xs.map Value.int)) (hl : xs.length = N) : ∃ f, RW1 h R N f := ⟨fun i => (xs[i]?).getD 0, xs, e, hl, fun i hi => by
  obtain ⟨y, hy⟩ : ∃ y, xs[i]? = some y := ⟨_, List.getElem?_eq_getElem (by omega)⟩
  show xs[i]? = some ((xs[i]?).getD 0)
  rw [hy]
  rfl⟩
theorem PRW.out {h : AH} {pb a1 a2 : Nat} (H : PRW h pb a1 a2) {a : Nat} (h0 : a ≠ pb) (h1 : a ≠ a1) (h2 : a ≠ a2) (c : AC) : PRW (hup h a c) pb a1 a2 := by
  obtain ⟨⟨w, w1, w2⟩, ⟨xs, x1, x2⟩, ys, y1, y2⟩ := H
  exact ⟨⟨w, w1, by rw [hup_ne _ _ (Ne.symm h0)]; exact w2⟩, ⟨xs, by rw [hup_ne _ _ (Ne.symm h1)]; exact x1, x2⟩, ys, by rw [hup_ne _ _ (Ne.symm h2)]; exact y1, y2⟩
/-- the classes' object, its pairs of any content -/
def CTW (B Q P : Nat → Nat) (h : AH) (F : Nat → TC) (X : List Nat) (f1 f2 f3 : Nat → Int32) : Prop :=
  TS B Q h F ∧ TN (F 51) X ∧ h (P 5) = some (3, [.ref (B 51), .ref (Q 61), .ref (Q 62), .ref (Q 63), .ref (P 14)]) ∧ RW1 h (Q 61) 32 f1 ∧ RW1 h (Q 62) 32 f2 ∧ RW1 h (Q 63) 8 f3 ∧ PRW h (P 14) (Q 66) (Q 67)
section CTw
variable {B Q P : Nat → Nat} {ox : Nat} {kn : Int32} {d r : Int32} {h h' : AH} {F F' : Nat → TC} {X : List Nat} {f1 f2 f3 : Nat → Int32} {ps qs : PL2}
theorem CTW.s1 (Y : LYO B Q) (T : CTW B Q P h F X f1 f2 f3) {row : List Int32} (hr : h (Q 61) = some (107, row.map Value.int)) {x : Nat} (hx : x < 32) (v : Int32) : CTW B Q P (hup h (Q 61) (107, (row.set x v).map Value.int)) F X (up1 f1 x v) f2 f3 := by
  obtain ⟨t1, t2, t3, t4, t5, t6, t7⟩ := T
  exact ⟨t1.outQ Y (by decide) (by decide) hr _, t2, by rw [hup_ne _ _ (k_ne t3 hr (by decide))]; exact t3, t4.set hr hx v, t5.out (Yne Y (by decide) (by decide) (by decide)) _, t6.out (Yne Y (by decide) (by decide) (by decide)) _, t7.out (k_ne hr t7.1.choose_spec.2 (by decide)) (Yne Y (by decide) (by decide) (by decide)) (Yne Y (by decide) (by decide) (by decide)) _⟩
theorem CTW.s2 (Y : LYO B Q) (T : CTW B Q P h F X f1 f2 f3) {row : List Int32} (hr : h (Q 62) = some (107, row.map Value.int)) {x : Nat} (hx : x < 32) (v : Int32) : CTW B Q P (hup h (Q 62) (107, (row.set x v).map Value.int)) F X f1 (up1 f2 x v) f3 := by
  obtain ⟨t1, t2, t3, t4, t5, t6, t7⟩ := T
  exact ⟨t1.outQ Y (by decide) (by decide) hr _, t2, by rw [hup_ne _ _ (k_ne t3 hr (by decide))]; exact t3, t4.out (Yne Y (by decide) (by decide) (by decide)) _, t5.set hr hx v, t6.out (Yne Y (by decide) (by decide) (by decide)) _, t7.out (k_ne hr t7.1.choose_spec.2 (by decide)) (Yne Y (by decide) (by decide) (by decide)) (Yne Y (by decide) (by decide) (by decide)) _⟩
theorem CTW.pr (Y : LYO B Q) (T : CTW B Q P h F X f1 f2 f3) (H : PRS h' (P 14) (Q 66) (Q 67) qs) (f : FrP (P 14) (Q 66) (Q 67) h h') : CTG B Q P h' F X f1 f2 f3 qs := by
  obtain ⟨t1, t2, t3, t4, t5, t6, t7⟩ := T
  have g3 := t7.1.choose_spec.2
  have kp : ∀ {j N : Nat} {g : Nat → Int32}, 60 ≤ j → j < 70 → j ≠ 66 → j ≠ 67 → RW1 h (Q j) N g → RW1 h' (Q j) N g := fun {j N g} h1 h2 n1 n2 ⟨row, r1, r2⟩ => ⟨row, by rw [f (Q j) (k_ne r1 g3 (by decide)) (Yne Y h2 (by decide) n1) (Yne Y h2 (by decide) n2)]; exact r1, r2⟩
  exact ⟨t1.frPw f t7 (hAq Y (by decide) (by decide) (by decide) (by decide)), t2, f.keep t7 t3 (by decide) (by decide), kp (by decide) (by decide) (by decide) (by decide) t4, kp (by decide) (by decide) (by decide) (by decide) t5, kp (by decide) (by decide) (by decide) (by decide) t6, H⟩
theorem SCR.lcl (R : SCR B Q P h) : ∀ a ∈ LCl P Q, ∃ k vs, h a = some (k, vs) ∧ okK k := fun a ha => by
  obtain ⟨-, r2, r3, r4, r5⟩ := R
  have row : ∀ j, 60 ≤ j → j < 70 → ∃ k vs, h (Q j) = some (k, vs) ∧ okK k := fun j h1 h2 => by
    obtain ⟨xs, x1, -⟩ := r5 j h1 h2
    exact ⟨_, _, x1, Or.inr (Or.inr rfl)⟩
  unfold LCl at ha
  simp only [List.mem_cons, List.not_mem_nil, or_false] at ha
  rcases ha with rfl | rfl | rfl | rfl | rfl | rfl
  · obtain ⟨w, w1, w2⟩ := r4 1 (by decide)
    exact ⟨_, _, w2, Or.inl rfl⟩
  · exact row 61 (by decide) (by decide)
  · exact row 62 (by decide) (by decide)
  · exact row 63 (by decide) (by decide)
  · exact row 66 (by decide) (by decide)
  · exact row 67 (by decide) (by decide)
theorem RW1.rows {h : AH} {R N : Nat} {f : Nat → Int32} (H : RW1 h R N f) : ∃ xs : List Int32, h R = some (107, xs.map Value.int) ∧ xs.length = N := by
  obtain ⟨xs, x1, x2, -⟩ := H
  exact ⟨xs, x1, x2⟩
/-- the class's cells after classes -/
theorem CLS.cl (Y : LYO B Q) (C : CLS B Q P ox kn h F d r) (T : CTG B Q P h' F' X f1 f2 f3 ps) (f : FrU B Q (LCl P Q) h h') : CLS B Q P ox kn h' F' d r := by
  obtain ⟨c1, c2, c3, c4⟩ := id C
  have hL := c4.lcl
  have hq : ∀ j, 60 ≤ j → j < 70 → j ≠ 61 → j ≠ 62 → j ≠ 63 → j ≠ 66 → j ≠ 67 → Q j ∉ LCl P Q := fun j h1 h2 n1 n2 n3 n4 n5 z => by
    obtain ⟨-, -, -, r4, r5⟩ := c4
    obtain ⟨xs, x1, -⟩ := r5 j h1 h2
    obtain ⟨w, -, w2⟩ := r4 1 (by decide)
    unfold LCl at z
    simp only [List.mem_cons, List.not_mem_nil, or_false] at z
    rcases z with z | z | z | z | z | z
    · exact k_ne x1 w2 (by decide) z
    · exact n1 (Y.2 _ _ h2 (by decide) z)
    · exact n2 (Y.2 _ _ h2 (by decide) z)
    · exact n3 (Y.2 _ _ h2 (by decide) z)
    · exact n4 (Y.2 _ _ h2 (by decide) z)
    · exact n5 (Y.2 _ _ h2 (by decide) z)
  have hp : ∀ k, k < 3 → k ≠ 1 → P (13 + k) ∉ LCl P Q := fun k hk n0 z => by
    have hne := c4.pne Y hk (j := 1) (by decide) n0
    obtain ⟨-, -, -, r4, r5⟩ := c4
    obtain ⟨w, -, w2⟩ := r4 k hk
    have row : ∀ j, 60 ≤ j → j < 70 → P (13 + k) ≠ Q j := fun j h1 h2 => by
      obtain ⟨xs, x1, -⟩ := r5 j h1 h2
      exact k_ne w2 x1 (by decide)
    unfold LCl at z
    simp only [List.mem_cons, List.not_mem_nil, or_false] at z
    rcases z with z | z | z | z | z | z
    · exact hne z
    · exact row 61 (by decide) (by decide) z
    · exact row 62 (by decide) (by decide) z
    · exact row 63 (by decide) (by decide) z
    · exact row 66 (by decide) (by decide) z
    · exact row 67 (by decide) (by decide) z
  have hp4 : P 4 ∉ LCl P Q := fun z => by
    obtain ⟨⟨t, e, r1⟩, -, -, r4, r5⟩ := c4
    have row : ∀ j, 60 ≤ j → j < 70 → P 4 ≠ Q j := fun j h1 h2 => by
      obtain ⟨xs, x1, -⟩ := r5 j h1 h2
      exact k_ne r1 x1 (by decide)
    obtain ⟨w, -, w2⟩ := r4 1 (by decide)
    unfold LCl at z
    simp only [List.mem_cons, List.not_mem_nil, or_false] at z
    rcases z with z | z | z | z | z | z
    · exact k_ne r1 w2 (by decide) z
    · exact row 61 (by decide) (by decide) z
    · exact row 62 (by decide) (by decide) z
    · exact row 63 (by decide) (by decide) z
    · exact row 66 (by decide) (by decide) z
    · exact row 67 (by decide) (by decide) z
  obtain ⟨t1, t2, t3, t4, t5, t6, t7⟩ := T
  refine ⟨t1, f.keep c1 hL c2 (by decide) (by unfold okK; decide), c3.keepU f c1 hL, ?_, t3, f.keep c1 hL c4.2.2.1 (by decide) (by unfold okK; decide), fun k hk => ?_, fun j h1 h2 => ?_⟩
  · obtain ⟨⟨t, e, r1⟩, -⟩ := c4
    refine ⟨t, e, ?_⟩
    rw [f _ (fun i hi => ?_) hp4]
    · exact r1
    · obtain ⟨-, b1, xs, b2, -⟩ := c1 i hi
      exact ⟨k_ne r1 b1 (by decide), k_ne r1 b2 (by decide)⟩
  · by_cases e : k = 1
    · subst e
      exact ⟨_, t7.1, t7.2.2.1⟩
    · exact c4.prU c1 f hk (hp k hk e)
  · by_cases e1 : j = 61
    · subst e1
      exact t4.rows
    · by_cases e2 : j = 62
      · subst e2
        exact t5.rows
      · by_cases e3 : j = 63
        · subst e3
          exact t6.rows
        · by_cases e4 : j = 66
          · subst e4
            obtain ⟨-, -, -, ⟨xs, x1, x2, -⟩, -⟩ := t7
            exact ⟨xs, x1, x2⟩
          · by_cases e5 : j = 67
            · subst e5
              obtain ⟨-, -, -, -, ys, y1, y2, -⟩ := t7
              exact ⟨ys, y1, y2⟩
            · exact c4.rowU Y c1 f h1 h2 (hq j h1 h2 e1 e2 e3 e4 e5)
end CTw
section S23
variable {la : Launch} {D : va_G} {cA : Nat → ClassId} {B0 pa : Nat} {B Q P : Nat → Nat} {ox : Nat} {kn : Int32} {F : Nat → TC} {d r : Int32}
/-- two terms made alike by classes -/
def mcP (B Q P : Nat → Nat) (ox : Nat) (kn : Int32) (F : Nat → TC) (d r : Int32) (X : List Nat) (n1 : Nat) (h : AH) (v : Option Value) (h' : AH) : Prop :=
  ∃ b : Bool, v = some (.int (bI b)) ∧ (b = true ↔ ∃ k, MnK X n1 k ∧ AcK X k) ∧ FrC h h' ∧ ∃ F' : Nat → TC, CLS B Q P ox kn h' F' d r ∧ (∀ i, i ≠ 51 → F' i = F i) ∧ (b = true → ∃ (k : Nat → Nat) (hd : Nat → Option Nat) (f3 : Nat → Int32) (ps : PL2), CTG B Q P h' F' X (nK k) (pK hd) f3 ps ∧ HDP X k hd ∧ GdK X n1 k ∧ AcK X k ∧ MnK X n1 k)
set_option maxHeartbeats 64000000 in
theorem s1_makeAlike (h : AH) (Y : LYO B Q) (C : CLS B Q P ox kn h F d r) {i1 i2 : Nat} (h1i : i1 < 52) (h1n : i1 ≠ 51) (h2i : i2 < 52) (h2n : i2 ≠ 51) {one other : List Nat} (N1 : TN (F i1) one) (N2 : TN (F i2) other) (t1 : TW one ∧ one.length ≤ 16) (t2 : TW other ∧ other.length ≤ 16) : CT la D cA B0 pa yX1_makeAlike cX1_makeAlike 8 (some .boolean) (rmD 6 0 0) [.ref (P 5), .ref (B i1), .ref (B i2)] h (mcP B Q P ox kn F d r (one ++ other) one.length h) := by
  refine CT_of (by decide +kernel) (Nat.le_of_ble_eq_true rfl) ?_
  intro p e s m args below meth c X E hr hlk hnm
  have dk : ∀ {pc : Nat} {q : Instr × Nat}, lkd DX1_makeAlike pc = some q → decode cX1_makeAlike pc = .ok q := lkd_ok DX1_makeAlike_ok
  obtain ⟨bY, ey1, ey2⟩ := BY_of t1 t2
  have hX := bY.1
  have hX32 := hX.2.2
  have hn1 := bY.2.2.2.1
  have hrm : rmI 51 = 32 := rfl
  have hl1 := N1.len
  have hl2 := N2.len
  have hL := C.2.2.2.lcl
  have NX : TN ((upF F 51 ((F i1).1 ++ (F i2).1, (F i1).2 || (F i2).2)) 51) (one ++ other) := by
    rw [upF_self]
    refine ⟨?_, fun x hx => (List.mem_append.mp hx).elim (N1.2 x) (N2.2 x)⟩
    show (F i1).1 ++ (F i2).1 = (one ++ other).map nI
    rw [N1.1, N2.1, List.map_append]
  have fin : ∀ (b : Bool) (h1 : AH) (k : Nat → Nat) (hd : Nat → Option Nat) (g : Nat → Int32) (ps : PL2), (b = true ↔ ∃ k, MnK (one ++ other) one.length k ∧ AcK (one ++ other) k) → CTG B Q P h1 (upF F 51 ((F i1).1 ++ (F i2).1, (F i1).2 || (F i2).2)) (one ++ other) (nK k) (pK hd) g ps → FrU B Q (LCl P Q) h h1 → (b = true → HDP (one ++ other) k hd ∧ GdK (one ++ other) one.length k ∧ AcK (one ++ other) k ∧ MnK (one ++ other) one.length k) → mcP B Q P ox kn F d r (one ++ other) one.length h (some (.int (bI b))) h1 := fun b h1 k hd g ps e1 T1 f1 e2 => ⟨b, rfl, e1, f1.frC C.1 hL, _, C.cl Y T1 f1, fun i hi => upF_ne _ _ hi, fun z => ⟨k, hd, g, ps, T1, e2 z⟩⟩
  have loop : ∀ (n j : Nat) (k : Nat → Nat) (hd : Nat → Option Nat) (g : Nat → Int32) (sk : PL2) (h1 : AH), sk.length + 3 * fxK (one ++ other).length k ≤ n → j + n ≤ 97 → IC (one ++ other) one.length k hd sk → CTG B Q P h1 (upF F 51 ((F i1).1 ++ (F i2).1, (F i1).2 || (F i2).2)) (one ++ other) (nK k) (pK hd) g sk.reverse → FrU B Q (LCl P Q) h h1 → ∀ l : List (Nat × Value), lsel l [4, 3, 0] = [(4, vI j), (3, .int (bI true)), (0, .ref (P 5))] → WR p la e (rmD 6 0 0) s m args below meth c D cA B0 8 (mcP B Q P ox kn F d r (one ++ other) one.length h) 86 l [] h1 0 0 := by
    intro n
    induction n with
    | zero =>
      intro j k hd g sk h1 hn hj I T1 f1 l hl
      cases sk with
      | nil =>
        obtain ⟨t1, t2, t3, t4, t5, t6, t7⟩ := id T1
        have mn := I.mn
        have HD := I.1
        refine WS.sel [4, 3, 0] hl ?_
        refine fst1_ok X (dk rfl) rfl ?_
        refine ldc_ok X csX1_63 (dk rfl) ?_
        refine br_ok X (dk rfl) rfl (show ((90 : Nat) : Int) + 95 = ((185 : Nat) : Int) from rfl) (fun q => absurd q (by rw [show (1000000 : Int32) = nI 1000000 by decide +kernel]; exact nI_ge (by omega) (by omega))) (fun _ => ?_)
        refine fst1_ok X (dk rfl) rfl ?_
        refine br_ok X (dk rfl) rfl (show ((94 : Nat) : Int) + 91 = ((185 : Nat) : Int) from rfl) (fun q => absurd q bI_t) (fun _ => ?_)
        refine fst1_ok X (dk rfl) rfl ?_
        refine getf_ok X flX1_33 (dk rfl) t3 rfl ?_
        refine callVR_ok (ci := 4) (T := TX2) (N := 3) (av := []) (r := []) X E (s2_length h1 t7) lkX2_length mlX1_64 lmX2_length lpX2_length ⟨Nat.le_of_ble_eq_true rfl, Nat.le_of_ble_eq_true rfl⟩ ⟨Nat.le_of_ble_eq_true rfl, Nat.le_of_ble_eq_true rfl⟩ rfl ⟨_, t7.2.2.1⟩ (Nat.le_of_ble_eq_true rfl) (dk rfl) ?_
        rintro _ rfl
        refine br_ok X (dk rfl) rfl (show ((104 : Nat) : Int) + 81 = ((185 : Nat) : Int) from rfl) (fun _ => ?_) (fun q => absurd (by decide) q)
        refine fst1_ok X (dk rfl) rfl ?_
        refine br_ok X (dk rfl) rfl (show ((186 : Nat) : Int) + 14 = ((200 : Nat) : Int) from rfl) (fun q => absurd q bI_t) (fun _ => ?_)
        refine fst1_ok X (dk rfl) rfl ?_
        refine callVR_ok (ci := 3) (T := TX1) (N := 5) (av := []) (r := []) X E (s1_isNoneInItself h1 T1 bY HD mn.1) lkX1_isNoneInItself mlX1_81 lmX1_isNoneInItself lpX1_isNoneInItself ⟨Nat.le_of_ble_eq_true rfl, Nat.le_of_ble_eq_true rfl⟩ ⟨Nat.le_of_ble_eq_true rfl, Nat.le_of_ble_eq_true rfl⟩ rfl ⟨_, t3⟩ (Nat.le_of_ble_eq_true rfl) (dk rfl) ?_
        rintro _ ⟨b, rfl, hb⟩
        have iff1 : b = true ↔ ∃ k, MnK (one ++ other) one.length k ∧ AcK (one ++ other) k := ⟨fun z => ⟨k, mn, hb.mp z⟩, fun ⟨k2, m2, a2⟩ => hb.mpr (AcK.of m2 mn a2)⟩
        cases b with
        | true =>
          refine br_ok X (dk rfl) rfl (show ((193 : Nat) : Int) + 7 = ((200 : Nat) : Int) from rfl) (fun q => absurd q bI_t) (fun _ => ?_)
          refine fst1_ok X (dk rfl) rfl ?_
          refine br_ok X (dk rfl) rfl (show ((197 : Nat) : Int) + 4 = ((201 : Nat) : Int) from rfl) (fun _ => ?_) (fun q => absurd trivial q)
          exact reti_ok X hr hlk (bI_n true) (dk rfl) (fin true h1 k hd g _ iff1 T1 f1 (fun _ => ⟨HD, mn.1, hb.mp rfl, mn⟩)) (Nat.le_of_ble_eq_true rfl) (Nat.le_of_ble_eq_true rfl)
        | false =>
          refine br_ok X (dk rfl) rfl (show ((193 : Nat) : Int) + 7 = ((200 : Nat) : Int) from rfl) (fun _ => ?_) (fun q => absurd bI_f' q)
          refine fst1_ok X (dk rfl) rfl ?_
          exact reti_ok X hr hlk (bI_n false) (dk rfl) (fin false h1 k hd g _ iff1 T1 f1 (fun z => (by cases z))) (Nat.le_of_ble_eq_true rfl) (Nat.le_of_ble_eq_true rfl)
      | cons z sk =>
        rw [List.length_cons] at hn
        omega
    | succ n ih =>
      intro j k hd g sk h1 hn hj I T1 f1 l hl
      cases sk with
      | nil =>
        obtain ⟨t1, t2, t3, t4, t5, t6, t7⟩ := id T1
        have mn := I.mn
        have HD := I.1
        refine WS.sel [4, 3, 0] hl ?_
        refine fst1_ok X (dk rfl) rfl ?_
        refine ldc_ok X csX1_63 (dk rfl) ?_
        refine br_ok X (dk rfl) rfl (show ((90 : Nat) : Int) + 95 = ((185 : Nat) : Int) from rfl) (fun q => absurd q (by rw [show (1000000 : Int32) = nI 1000000 by decide +kernel]; exact nI_ge (by omega) (by omega))) (fun _ => ?_)
        refine fst1_ok X (dk rfl) rfl ?_
        refine br_ok X (dk rfl) rfl (show ((94 : Nat) : Int) + 91 = ((185 : Nat) : Int) from rfl) (fun q => absurd q bI_t) (fun _ => ?_)
        refine fst1_ok X (dk rfl) rfl ?_
        refine getf_ok X flX1_33 (dk rfl) t3 rfl ?_
        refine callVR_ok (ci := 4) (T := TX2) (N := 3) (av := []) (r := []) X E (s2_length h1 t7) lkX2_length mlX1_64 lmX2_length lpX2_length ⟨Nat.le_of_ble_eq_true rfl, Nat.le_of_ble_eq_true rfl⟩ ⟨Nat.le_of_ble_eq_true rfl, Nat.le_of_ble_eq_true rfl⟩ rfl ⟨_, t7.2.2.1⟩ (Nat.le_of_ble_eq_true rfl) (dk rfl) ?_
        rintro _ rfl
        refine br_ok X (dk rfl) rfl (show ((104 : Nat) : Int) + 81 = ((185 : Nat) : Int) from rfl) (fun _ => ?_) (fun q => absurd (by decide) q)
        refine fst1_ok X (dk rfl) rfl ?_
        refine br_ok X (dk rfl) rfl (show ((186 : Nat) : Int) + 14 = ((200 : Nat) : Int) from rfl) (fun q => absurd q bI_t) (fun _ => ?_)
        refine fst1_ok X (dk rfl) rfl ?_
        refine callVR_ok (ci := 3) (T := TX1) (N := 5) (av := []) (r := []) X E (s1_isNoneInItself h1 T1 bY HD mn.1) lkX1_isNoneInItself mlX1_81 lmX1_isNoneInItself lpX1_isNoneInItself ⟨Nat.le_of_ble_eq_true rfl, Nat.le_of_ble_eq_true rfl⟩ ⟨Nat.le_of_ble_eq_true rfl, Nat.le_of_ble_eq_true rfl⟩ rfl ⟨_, t3⟩ (Nat.le_of_ble_eq_true rfl) (dk rfl) ?_
        rintro _ ⟨b, rfl, hb⟩
        have iff1 : b = true ↔ ∃ k, MnK (one ++ other) one.length k ∧ AcK (one ++ other) k := ⟨fun z => ⟨k, mn, hb.mp z⟩, fun ⟨k2, m2, a2⟩ => hb.mpr (AcK.of m2 mn a2)⟩
        cases b with
        | true =>
          refine br_ok X (dk rfl) rfl (show ((193 : Nat) : Int) + 7 = ((200 : Nat) : Int) from rfl) (fun q => absurd q bI_t) (fun _ => ?_)
          refine fst1_ok X (dk rfl) rfl ?_
          refine br_ok X (dk rfl) rfl (show ((197 : Nat) : Int) + 4 = ((201 : Nat) : Int) from rfl) (fun _ => ?_) (fun q => absurd trivial q)
          exact reti_ok X hr hlk (bI_n true) (dk rfl) (fin true h1 k hd g _ iff1 T1 f1 (fun _ => ⟨HD, mn.1, hb.mp rfl, mn⟩)) (Nat.le_of_ble_eq_true rfl) (Nat.le_of_ble_eq_true rfl)
        | false =>
          refine br_ok X (dk rfl) rfl (show ((193 : Nat) : Int) + 7 = ((200 : Nat) : Int) from rfl) (fun _ => ?_) (fun q => absurd bI_f' q)
          refine fst1_ok X (dk rfl) rfl ?_
          exact reti_ok X hr hlk (bI_n false) (dk rfl) (fin false h1 k hd g _ iff1 T1 f1 (fun z => (by cases z))) (Nat.le_of_ble_eq_true rfl) (Nat.le_of_ble_eq_true rfl)
      | cons z sk =>
        obtain ⟨u1, u2⟩ := z
        obtain ⟨hu1, hu2⟩ := I.2.2.2.2.2 (u1, u2) List.mem_cons_self
        have hu1 : u1 < (one ++ other).length := hu1
        have hu2 : u2 < (one ++ other).length := hu2
        rw [List.reverse_cons] at T1
        rw [List.length_cons] at hn
        obtain ⟨t1, t2, t3, t4, t5, t6, t7⟩ := id T1
        have HD := I.1
        have hk1 : k u1 < 32 := HD.1 u1 (by omega)
        have hk2 : k u2 < 32 := HD.1 u2 (by omega)
        have elen : (sk.reverse ++ [(u1, u2)]).length = sk.length + 1 := by rw [List.length_append, List.length_reverse, List.length_singleton]
        have eget : (sk.reverse ++ [(u1, u2)])[sk.length]? = some (u1, u2) := by
          rw [List.getElem?_append_right (by rw [List.length_reverse]; exact Nat.le_refl _), List.length_reverse, Nat.sub_self]
          rfl
        have fj : Value.int (nI j + Int32.ofInt 1) = vI (j + 1) := congrArg Value.int (by rw [nI_1', nI_add])
        refine WS.sel [4, 3, 0] hl ?_
        refine fst1_ok X (dk rfl) rfl ?_
        refine ldc_ok X csX1_63 (dk rfl) ?_
        refine br_ok X (dk rfl) rfl (show ((90 : Nat) : Int) + 95 = ((185 : Nat) : Int) from rfl) (fun q => absurd q (by rw [show (1000000 : Int32) = nI 1000000 by decide +kernel]; exact nI_ge (by omega) (by omega))) (fun _ => ?_)
        refine fst1_ok X (dk rfl) rfl ?_
        refine br_ok X (dk rfl) rfl (show ((94 : Nat) : Int) + 91 = ((185 : Nat) : Int) from rfl) (fun q => absurd q bI_t) (fun _ => ?_)
        refine fst1_ok X (dk rfl) rfl ?_
        refine getf_ok X flX1_33 (dk rfl) t3 rfl ?_
        refine callVR_ok (ci := 4) (T := TX2) (N := 3) (av := []) (r := []) X E (s2_length h1 t7) lkX2_length mlX1_64 lmX2_length lpX2_length ⟨Nat.le_of_ble_eq_true rfl, Nat.le_of_ble_eq_true rfl⟩ ⟨Nat.le_of_ble_eq_true rfl, Nat.le_of_ble_eq_true rfl⟩ rfl ⟨_, t7.2.2.1⟩ (Nat.le_of_ble_eq_true rfl) (dk rfl) ?_
        rintro _ rfl
        rw [elen]
        refine br_ok X (dk rfl) rfl (show ((104 : Nat) : Int) + 81 = ((185 : Nat) : Int) from rfl) (fun q => absurd q (nI_nle (Nat.succ_pos _) (by omega))) (fun _ => ?_)
        refine fst1_ok X (dk rfl) rfl ?_
        refine getf_ok X flX1_33 (dk rfl) t3 rfl ?_
        refine callVR_ok (ci := 4) (T := TX2) (N := 3) (av := []) (r := []) X E (s2_length h1 t7) lkX2_length mlX1_64 lmX2_length lpX2_length ⟨Nat.le_of_ble_eq_true rfl, Nat.le_of_ble_eq_true rfl⟩ ⟨Nat.le_of_ble_eq_true rfl, Nat.le_of_ble_eq_true rfl⟩ rfl ⟨_, t7.2.2.1⟩ (Nat.le_of_ble_eq_true rfl) (dk rfl) ?_
        rintro _ rfl
        rw [elen]
        iterate 5 refine fst1_ok X (dk rfl) rfl ?_
        rw [nI_1', nI_sub (by omega), Nat.add_sub_cancel]
        refine getf_ok X flX1_33 (dk rfl) t3 rfl ?_
        refine fst1_ok X (dk rfl) rfl ?_
        refine callVR_ok (ci := 4) (T := TX2) (N := 3) (av := [vI sk.length]) (r := [.ref (P 5)]) X E (s2_oneAt h1 t7 eget) lkX2_oneAt mlX1_65 lmX2_oneAt lpX2_oneAt ⟨Nat.le_of_ble_eq_true rfl, Nat.le_of_ble_eq_true rfl⟩ ⟨Nat.le_of_ble_eq_true rfl, Nat.le_of_ble_eq_true rfl⟩ rfl ⟨_, t7.2.2.1⟩ (Nat.le_of_ble_eq_true rfl) (dk rfl) ?_
        rintro _ rfl
        refine callVR_ok (ci := 3) (T := TX1) (N := 5) (av := [vI u1]) (r := []) X E (s1_classAt h1 T1 (z := u1) (by omega)) lkX1_classAt mlX1_68 lmX1_classAt lpX1_classAt ⟨Nat.le_of_ble_eq_true rfl, Nat.le_of_ble_eq_true rfl⟩ ⟨Nat.le_of_ble_eq_true rfl, Nat.le_of_ble_eq_true rfl⟩ rfl ⟨_, t3⟩ (Nat.le_of_ble_eq_true rfl) (dk rfl) ?_
        rintro _ rfl
        iterate 3 refine fst1_ok X (dk rfl) rfl ?_
        refine getf_ok X flX1_33 (dk rfl) t3 rfl ?_
        refine fst1_ok X (dk rfl) rfl ?_
        refine callVR_ok (ci := 4) (T := TX2) (N := 3) (av := [vI sk.length]) (r := [.ref (P 5)]) X E (s2_otherAt h1 t7 eget) lkX2_otherAt mlX1_71 lmX2_otherAt lpX2_otherAt ⟨Nat.le_of_ble_eq_true rfl, Nat.le_of_ble_eq_true rfl⟩ ⟨Nat.le_of_ble_eq_true rfl, Nat.le_of_ble_eq_true rfl⟩ rfl ⟨_, t7.2.2.1⟩ (Nat.le_of_ble_eq_true rfl) (dk rfl) ?_
        rintro _ rfl
        refine callVR_ok (ci := 3) (T := TX1) (N := 5) (av := [vI u2]) (r := []) X E (s1_classAt h1 T1 (z := u2) (by omega)) lkX1_classAt mlX1_68 lmX1_classAt lpX1_classAt ⟨Nat.le_of_ble_eq_true rfl, Nat.le_of_ble_eq_true rfl⟩ ⟨Nat.le_of_ble_eq_true rfl, Nat.le_of_ble_eq_true rfl⟩ rfl ⟨_, t3⟩ (Nat.le_of_ble_eq_true rfl) (dk rfl) ?_
        rintro _ rfl
        rw [show nK k u1 = nI (k u1) from rfl, show nK k u2 = nI (k u2) from rfl]
        iterate 2 refine fst1_ok X (dk rfl) rfl ?_
        refine getf_ok X flX1_33 (dk rfl) t3 rfl ?_
        refine callV_ok (ci := 4) (T := TX2) (N := 3) (av := []) (r := []) X E (s2_dropNext h1 t7) lkX2_dropNext mlX1_74 lmX2_dropNext lpX2_dropNext ⟨Nat.le_of_ble_eq_true rfl, Nat.le_of_ble_eq_true rfl⟩ ⟨Nat.le_of_ble_eq_true rfl, Nat.le_of_ble_eq_true rfl⟩ rfl t7.2.2.1 (Nat.le_of_ble_eq_true rfl) (dk rfl) ?_
        rintro _ h2 ⟨rfl, H2, g2⟩
        have T2 := T1.pr Y H2 g2
        have f2 := f1.trans (g2.u (LCl_p P Q))
        obtain ⟨-, -, s3, -, -, -, s7⟩ := id T2
        iterate 2 refine fst1_ok X (dk rfl) rfl ?_
        by_cases ee : k u1 = k u2
        · refine br_ok X (dk rfl) rfl (show ((159 : Nat) : Int) + 14 = ((173 : Nat) : Int) from rfl) (fun _ => ?_) (fun q => absurd (by rw [ee]) q)
          refine fst1_ok X (dk rfl) rfl ?_
          refine br_ok X (dk rfl) rfl (show ((174 : Nat) : Int) + 4 = ((178 : Nat) : Int) from rfl) (fun _ => ?_) (fun q => absurd trivial q)
          have I2 := I.skip (z := (u1, u2)) ee
          iterate 2 refine fst1_ok X (dk rfl) rfl ?_
          refine br_ok X (dk rfl) rfl (show ((182 : Nat) : Int) + (-96) = ((86 : Nat) : Int) from rfl) (fun _ => ?_) (fun q => absurd trivial q)
          refine WS.sel (l' := [(4, vI (j + 1)), (3, .int (bI true)), (0, .ref (P 5))]) [4, 3, 0] (by rw [← fj]; rfl) ?_
          exact ih (j + 1) k hd g _ h2 (by omega) (by omega) I2 T2 f2 _ rfl
        · refine br_ok X (dk rfl) rfl (show ((159 : Nat) : Int) + 14 = ((173 : Nat) : Int) from rfl) (fun q => absurd (nI_inj (by omega) (by omega) q) ee) (fun _ => ?_)
          iterate 3 refine fst1_ok X (dk rfl) rfl ?_
          refine callV_ok (ci := 3) (T := TX1) (N := 5) (av := [vI (k u1), vI (k u2)]) (r := []) X E (s1_join h2 Y T2 hX (zl := k u1) (zr := k u2) hk1 hk2 HD.1 (fun a ea => (HD.2.2.1 u1 hu1 a ea).1) (fun a ea => (HD.2.2.1 u2 hu2 a ea).1) (by rw [List.length_reverse]; omega)) lkX1_join mlX1_77 lmX1_join lpX1_join ⟨Nat.le_of_ble_eq_true rfl, Nat.le_of_ble_eq_true rfl⟩ ⟨Nat.le_of_ble_eq_true rfl, Nat.le_of_ble_eq_true rfl⟩ rfl s3 (Nat.le_of_ble_eq_true rfl) (dk rfl) ?_
          rintro _ h3 (⟨a, b, ea, eb, hg, rfl, rfl⟩ | ⟨rfl, hgg, T3, g3⟩)
          · refine br_ok X (dk rfl) rfl (show ((170 : Nat) : Int) + 7 = ((177 : Nat) : Int) from rfl) (fun _ => ?_) (fun q => absurd bI_f' q)
            have hno := I.no (z := (u1, u2)) ea eb hg
            iterate 3 refine fst1_ok X (dk rfl) rfl ?_
            refine br_ok X (dk rfl) rfl (show ((182 : Nat) : Int) + (-96) = ((86 : Nat) : Int) from rfl) (fun _ => ?_) (fun q => absurd trivial q)
            refine fst1_ok X (dk rfl) rfl ?_
            refine ldc_ok X csX1_63 (dk rfl) ?_
            refine br_ok X (dk rfl) rfl (show ((90 : Nat) : Int) + 95 = ((185 : Nat) : Int) from rfl) (fun q => absurd q (by rw [show (1000000 : Int32) = nI 1000000 by decide +kernel, nI_1', nI_add]; exact nI_ge (by omega) (by omega))) (fun _ => ?_)
            refine fst1_ok X (dk rfl) rfl ?_
            refine br_ok X (dk rfl) rfl (show ((94 : Nat) : Int) + 91 = ((185 : Nat) : Int) from rfl) (fun _ => ?_) (fun q => absurd bI_f' q)
            refine fst1_ok X (dk rfl) rfl ?_
            refine br_ok X (dk rfl) rfl (show ((186 : Nat) : Int) + 14 = ((200 : Nat) : Int) from rfl) (fun _ => ?_) (fun q => absurd bI_f' q)
            refine fst1_ok X (dk rfl) rfl ?_
            exact reti_ok X hr hlk (bI_n false) (dk rfl) (fin false h3 k hd g _ ⟨fun z => (by cases z), fun ⟨k2, m2, _⟩ => absurd ⟨k2, m2.1⟩ hno⟩ T2 f2 (fun z => (by cases z))) (Nat.le_of_ble_eq_true rfl) (Nat.le_of_ble_eq_true rfl)
          · obtain ⟨I3, m3, m4⟩ := I.mrg hX (z := (u1, u2)) ee hgg
            have m3 : fxK (one ++ other).length (mgK k (k u1) (k u2)) + 1 ≤ fxK (one ++ other).length k := m3
            have m4 : (nwM (one ++ other) hd (k u1) (k u2)).length ≤ 3 := m4
            have f3 := f2.trans g3
            have T4 : CTG B Q P h3 (upF F 51 ((F i1).1 ++ (F i2).1, (F i1).2 || (F i2).2)) (one ++ other) (nK (mgK k (k u1) (k u2))) (pK (hdM k hd (k u1) (k u2))) g (nwM (one ++ other) hd (k u1) (k u2) ++ sk).reverse := by
              refine Eq.mp (congrArg (CTG B Q P h3 (upF F 51 ((F i1).1 ++ (F i2).1, (F i1).2 || (F i2).2)) (one ++ other) (nK (mgK k (k u1) (k u2))) (pK (hdM k hd (k u1) (k u2))) g) ?_) T3
              rw [List.reverse_append]
              congr 1
              unfold nwM
              generalize hd (k u1) = oa
              generalize hd (k u2) = ob
              cases oa <;> cases ob <;> rfl
            refine br_ok X (dk rfl) rfl (show ((170 : Nat) : Int) + 7 = ((177 : Nat) : Int) from rfl) (fun q => absurd q bI_t) (fun _ => ?_)
            refine fst1_ok X (dk rfl) rfl ?_
            refine br_ok X (dk rfl) rfl (show ((174 : Nat) : Int) + 4 = ((178 : Nat) : Int) from rfl) (fun _ => ?_) (fun q => absurd trivial q)
            iterate 2 refine fst1_ok X (dk rfl) rfl ?_
            refine br_ok X (dk rfl) rfl (show ((182 : Nat) : Int) + (-96) = ((86 : Nat) : Int) from rfl) (fun _ => ?_) (fun q => absurd trivial q)
            refine WS.sel (l' := [(4, vI (j + 1)), (3, .int (bI true)), (0, .ref (P 5))]) [4, 3, 0] (by rw [← fj]; rfl) ?_
            exact ih (j + 1) (mgK k (k u1) (k u2)) (hdM k hd (k u1) (k u2)) g _ h3 (by rw [List.length_append]; omega) (by omega) I3 T4 f3 _ rfl
  have fill : ∀ (u i : Nat) (g1 g2 g3 : Nat → Int32) (h1 : AH), u + i = 32 → CTW B Q P h1 (upF F 51 ((F i1).1 ++ (F i2).1, (F i1).2 || (F i2).2)) (one ++ other) g1 g2 g3 → (∀ y, y < i → g1 y = nK (flX (one ++ other)) y ∧ g2 y = pK (hd0 (one ++ other)) y) → FrU B Q (LCl P Q) h h1 → ∀ l : List (Nat × Value), lsel l [3, 1, 0] = [(3, vI i), (1, .ref (B i1)), (0, .ref (P 5))] → WR p la e (rmD 6 0 0) s m args below meth c D cA B0 8 (mcP B Q P ox kn F d r (one ++ other) one.length h) 11 l [] h1 0 0 := by
    intro u
    induction u with
    | zero =>
      intro i g1 g2 g3 h1 hi T1 hg f1 l hl
      have hi32 : i = 32 := by omega
      subst hi32
      obtain ⟨t1, t2, t3, t4, t5, t6, t7⟩ := id T1
      refine WS.sel [3, 1, 0] hl ?_
      iterate 2 refine fst1_ok X (dk rfl) rfl ?_
      refine br_ok X (dk rfl) rfl (show ((14 : Nat) : Int) + 48 = ((62 : Nat) : Int) from rfl) (fun _ => ?_) (fun q => absurd (by rw [nI_32']; exact Int32.le_refl _) q)
      refine fst1_ok X (dk rfl) rfl ?_
      refine getf_ok X flX1_33 (dk rfl) t3 rfl ?_
      refine callV_ok (ci := 4) (T := TX2) (N := 3) (av := []) (r := []) X E (s2_empty h1 t7) lkX2_empty mlX1_52 lmX2_empty lpX2_empty ⟨Nat.le_of_ble_eq_true rfl, Nat.le_of_ble_eq_true rfl⟩ ⟨Nat.le_of_ble_eq_true rfl, Nat.le_of_ble_eq_true rfl⟩ rfl t7.1.choose_spec.2 (Nat.le_of_ble_eq_true rfl) (dk rfl) ?_
      rintro _ h2 ⟨rfl, H2, f2⟩
      have T2 := T1.pr Y H2 f2
      obtain ⟨s1, s2, s3, s4, s5, s6, s7⟩ := id T2
      refine fst1_ok X (dk rfl) rfl ?_
      refine getf_ok X flX1_33 (dk rfl) s3 rfl ?_
      iterate 2 refine fst1_ok X (dk rfl) rfl ?_
      refine callVR_ok (ci := 7) (T := TX5) (N := 3) (av := []) (r := [vI 0, .ref (P 14)]) X E (s5_length h2 s1 h1i) lkX5_length mlX1_55 lmX5_length lpX5_length ⟨Nat.le_of_ble_eq_true rfl, Nat.le_of_ble_eq_true rfl⟩ ⟨Nat.le_of_ble_eq_true rfl, Nat.le_of_ble_eq_true rfl⟩ rfl ⟨_, (s1 i1 h1i).2.1⟩ (Nat.le_of_ble_eq_true rfl) (dk rfl) ?_
      rintro _ rfl
      rw [upF_ne _ _ h1n, hl1]
      refine callV_ok (ci := 4) (T := TX2) (N := 3) (av := [vI 0, vI one.length]) (r := []) X E (s2_add h2 H2 (Yne Y (by decide) (by decide) (by decide)) (ta := 0) (tb := one.length) ⟨by omega, by omega⟩ (by decide)) lkX2_add mlX1_59 lmX2_add lpX2_add ⟨Nat.le_of_ble_eq_true rfl, Nat.le_of_ble_eq_true rfl⟩ ⟨Nat.le_of_ble_eq_true rfl, Nat.le_of_ble_eq_true rfl⟩ rfl H2.2.2.1 (Nat.le_of_ble_eq_true rfl) (dk rfl) ?_
      rintro _ h3 ⟨rfl, H3, f3⟩
      have T3 := (T2.pr Y H3 f3).congr (fun y hy => (hg y hy).1) (fun y hy => (hg y hy).2)
      have f23 := (f1.trans (f2.u (LCl_p P Q))).trans (f3.u (LCl_p P Q))
      iterate 4 refine fst1_ok X (dk rfl) rfl ?_
      refine WS.sel (l' := [(4, vI 0), (3, .int (bI true)), (0, .ref (P 5))]) [4, 3, 0] (rfl) ?_
      have hfx := fxK_le (one ++ other).length (flX (one ++ other))
      exact loop 97 0 _ _ g3 [(0, one.length)] h3 (by rw [List.length_singleton]; omega) (by omega) (IC0 bY) T3 f23 _ rfl
    | succ u ih =>
      intro i g1 g2 g3 h1 hi T1 hg f1 l hl
      obtain ⟨t1, t2, t3, ⟨ra, ra1, ra2, ra3⟩, t5, t6, t7⟩ := id T1
      have fi : Value.int (nI i + Int32.ofInt 1) = vI (i + 1) := congrArg Value.int (by rw [nI_1', nI_add])
      refine WS.sel [3, 1, 0] hl ?_
      iterate 2 refine fst1_ok X (dk rfl) rfl ?_
      refine br_ok X (dk rfl) rfl (show ((14 : Nat) : Int) + 48 = ((62 : Nat) : Int) from rfl) (fun q => absurd q (by rw [nI_32']; exact nI_ge (by omega) (by omega))) (fun _ => ?_)
      refine fst1_ok X (dk rfl) rfl ?_
      refine getf_ok X flX1_20 (dk rfl) t3 rfl ?_
      iterate 2 refine fst1_ok X (dk rfl) rfl ?_
      refine getf_ok X flX1_16 (dk rfl) t3 rfl ?_
      refine fst1_ok X (dk rfl) rfl ?_
      refine callVR_ok (ci := 7) (T := TX5) (N := 3) (av := [vI i]) (r := [vI i, .ref (Q 61)]) X E (s5_firstLike h1 t1 (ib := 51) (by omega) hX t2 (z := i) (by omega)) lkX5_firstLike mlX1_41 lmX5_firstLike lpX5_firstLike ⟨Nat.le_of_ble_eq_true rfl, Nat.le_of_ble_eq_true rfl⟩ ⟨Nat.le_of_ble_eq_true rfl, Nat.le_of_ble_eq_true rfl⟩ rfl ⟨_, (t1 51 (by omega)).2.1⟩ (Nat.le_of_ble_eq_true rfl) (dk rfl) ?_
      rintro _ rfl
      refine ast7_ok X (dk rfl) ra1 (nI_pos (by omega)) (by rw [nI_clamp (by omega)]; omega) ?_
      rw [nI_clamp (by omega)]
      have T2 := T1.s1 Y ra1 (x := i) (by omega) (nI (flX (one ++ other) i))
      have f2 := f1.set (LCl_q P Q).1 (107, (ra.set i (nI (flX (one ++ other) i))).map Value.int)
      obtain ⟨s1, s2, s3, s4, ⟨rb, rb1, rb2, rb3⟩, s6, s7⟩ := id T2
      refine fst1_ok X (dk rfl) rfl ?_
      refine getf_ok X flX1_24 (dk rfl) s3 rfl ?_
      iterate 2 refine fst1_ok X (dk rfl) rfl ?_
      refine getf_ok X flX1_16 (dk rfl) s3 rfl ?_
      refine fst1_ok X (dk rfl) rfl ?_
      refine callVR_ok (ci := 7) (T := TX5) (N := 3) (av := [vI i]) (r := [vI i, .ref (Q 62)]) X E (s5_letterAt _ s1 (i := 51) (by omega) (nI i)) lkX5_letterAt mlX1_45 lmX5_letterAt lpX5_letterAt ⟨Nat.le_of_ble_eq_true rfl, Nat.le_of_ble_eq_true rfl⟩ ⟨Nat.le_of_ble_eq_true rfl, Nat.le_of_ble_eq_true rfl⟩ rfl ⟨_, (s1 51 (by omega)).2.1⟩ (Nat.le_of_ble_eq_true rfl) (dk rfl) ?_
      rintro _ rfl
      rcases Nat.lt_or_ge i (one ++ other).length with hil | hil
      · have hgi := gl_get hil
        have ogi := gl_ok hX hil
        have lti := ogi.lt
        rw [s2.lt hgi (by omega)]
        refine callNR_ok (av := [vI (gl (one ++ other) i)]) (r := [vI i, .ref (Q 62)]) X E (s6_isHead _ (x := gl (one ++ other) i) (by omega)) lkX6_isHead mnX1_48 lsX6_isHead ⟨Nat.le_of_ble_eq_true rfl, Nat.le_of_ble_eq_true rfl⟩ ⟨Nat.le_of_ble_eq_true rfl, Nat.le_of_ble_eq_true rfl⟩ (Nat.le_of_ble_eq_true rfl) (dk rfl) ?_
        rintro _ rfl
        by_cases h10 : 10 ≤ gl (one ++ other) i
        · rw [decide_eq_true ⟨h10, by rcases ogi with z | z <;> omega⟩]
          refine br_ok X (dk rfl) rfl (show ((47 : Nat) : Int) + 7 = ((54 : Nat) : Int) from rfl) (fun q => absurd q bI_t) (fun _ => ?_)
          have ehd : nI i = pK (hd0 (one ++ other)) i := by
            show _ = pI (hd0 (one ++ other) i)
            unfold hd0
            rw [if_pos ⟨hil, h10⟩]
            rfl
          refine fst1_ok X (dk rfl) rfl ?_
          refine br_ok X (dk rfl) rfl (show ((51 : Nat) : Int) + 4 = ((55 : Nat) : Int) from rfl) (fun _ => ?_) (fun q => absurd trivial q)
          refine ast7_ok X (dk rfl) rb1 (nI_pos (by omega)) (by rw [nI_clamp (by omega)]; omega) ?_
          rw [nI_clamp (by omega)]
          have T3 := T2.s2 Y rb1 (x := i) (by omega) (nI i)
          have f3 := f2.set (LCl_q P Q).2.1 (107, (rb.set i (nI i)).map Value.int)
          refine fst1_ok X (dk rfl) rfl ?_
          refine br_ok X (dk rfl) rfl (show ((59 : Nat) : Int) + (-48) = ((11 : Nat) : Int) from rfl) (fun _ => ?_) (fun q => absurd trivial q)
          refine WS.sel (l' := [(3, vI (i + 1)), (1, .ref (B i1)), (0, .ref (P 5))]) [3, 1, 0] (by rw [← fi]; rfl) ?_
          exact ih (i + 1) _ _ g3 _ (by omega) T3 (fun y hy => by
            unfold up1
            by_cases e9 : y = i
            · rw [if_pos e9, if_pos e9, e9]
              exact ⟨rfl, ehd⟩
            · rw [if_neg e9, if_neg e9]
              exact hg y (by omega)) f3 _ rfl
        · rw [decide_eq_false (fun z => h10 z.1)]
          have hno : ¬ (i < (one ++ other).length ∧ 10 ≤ gl (one ++ other) i) := fun z => h10 z.2
          refine br_ok X (dk rfl) rfl (show ((47 : Nat) : Int) + 7 = ((54 : Nat) : Int) from rfl) (fun _ => ?_) (fun q => absurd bI_f' q)
          have ehd : Int32.ofInt (-1) = pK (hd0 (one ++ other)) i := by
            show _ = pI (hd0 (one ++ other) i)
            unfold hd0
            rw [if_neg hno]
            rfl
          refine fst1_ok X (dk rfl) rfl ?_
          refine ast7_ok X (dk rfl) rb1 (nI_pos (by omega)) (by rw [nI_clamp (by omega)]; omega) ?_
          rw [nI_clamp (by omega)]
          have T3 := T2.s2 Y rb1 (x := i) (by omega) (Int32.ofInt (-1))
          have f3 := f2.set (LCl_q P Q).2.1 (107, (rb.set i (Int32.ofInt (-1))).map Value.int)
          refine fst1_ok X (dk rfl) rfl ?_
          refine br_ok X (dk rfl) rfl (show ((59 : Nat) : Int) + (-48) = ((11 : Nat) : Int) from rfl) (fun _ => ?_) (fun q => absurd trivial q)
          refine WS.sel (l' := [(3, vI (i + 1)), (1, .ref (B i1)), (0, .ref (P 5))]) [3, 1, 0] (by rw [← fi]; rfl) ?_
          exact ih (i + 1) _ _ g3 _ (by omega) T3 (fun y hy => by
            unfold up1
            by_cases e9 : y = i
            · rw [if_pos e9, if_pos e9, e9]
              exact ⟨rfl, ehd⟩
            · rw [if_neg e9, if_neg e9]
              exact hg y (by omega)) f3 _ rfl
      · rw [s2.out hil (by omega)]
        have hno : ¬ (i < (one ++ other).length ∧ 10 ≤ gl (one ++ other) i) := fun z => by omega
        refine callNR_ok (av := [.int (Int8.ofInt (-9)).toInt32]) (r := [vI i, .ref (Q 62)]) X E (s6_isHead9 _) lkX6_isHead mnX1_48 lsX6_isHead ⟨Nat.le_of_ble_eq_true rfl, Nat.le_of_ble_eq_true rfl⟩ ⟨Nat.le_of_ble_eq_true rfl, Nat.le_of_ble_eq_true rfl⟩ (Nat.le_of_ble_eq_true rfl) (dk rfl) ?_
        rintro _ rfl
        refine br_ok X (dk rfl) rfl (show ((47 : Nat) : Int) + 7 = ((54 : Nat) : Int) from rfl) (fun _ => ?_) (fun q => absurd bI_f' q)
        have ehd : Int32.ofInt (-1) = pK (hd0 (one ++ other)) i := by
          show _ = pI (hd0 (one ++ other) i)
          unfold hd0
          rw [if_neg hno]
          rfl
        refine fst1_ok X (dk rfl) rfl ?_
        refine ast7_ok X (dk rfl) rb1 (nI_pos (by omega)) (by rw [nI_clamp (by omega)]; omega) ?_
        rw [nI_clamp (by omega)]
        have T3 := T2.s2 Y rb1 (x := i) (by omega) (Int32.ofInt (-1))
        have f3 := f2.set (LCl_q P Q).2.1 (107, (rb.set i (Int32.ofInt (-1))).map Value.int)
        refine fst1_ok X (dk rfl) rfl ?_
        refine br_ok X (dk rfl) rfl (show ((59 : Nat) : Int) + (-48) = ((11 : Nat) : Int) from rfl) (fun _ => ?_) (fun q => absurd trivial q)
        refine WS.sel (l' := [(3, vI (i + 1)), (1, .ref (B i1)), (0, .ref (P 5))]) [3, 1, 0] (by rw [← fi]; rfl) ?_
        exact ih (i + 1) _ _ g3 _ (by omega) T3 (fun y hy => by
          unfold up1
          by_cases e9 : y = i
          · rw [if_pos e9, if_pos e9, e9]
            exact ⟨rfl, ehd⟩
          · rw [if_neg e9, if_neg e9]
            exact hg y (by omega)) f3 _ rfl
  obtain ⟨r1, r2, r3, r4, r5⟩ := id C.2.2.2
  refine fst1_ok X (dk rfl) rfl ?_
  refine getf_ok X flX1_16 (dk rfl) r2 rfl ?_
  iterate 2 refine fst1_ok X (dk rfl) rfl ?_
  refine callVT_ok (ci := 7) (T := TX5) (N := 3) (av := [.ref (B i1), .ref (B i2)]) (r := []) X E (s5_becomeBoth h Y C.1 (i := 51) (by omega) (j := i1) h1i h1n (k := i2) h2i h2n (by rw [hl1, hl2, hrm]; rw [List.length_append] at hX32; omega)) lkX5_becomeBoth mlX1_37 lmX5_becomeBoth lpX5_becomeBoth ⟨Nat.le_of_ble_eq_true rfl, Nat.le_of_ble_eq_true rfl⟩ ⟨Nat.le_of_ble_eq_true rfl, Nat.le_of_ble_eq_true rfl⟩ rfl (C.1 51 (by omega)).2.1 (Nat.le_of_ble_eq_true rfl) (dk rfl) (fun h1 S1 f1 => ?_)
  have C1 := C.tm Y S1 f1
  obtain ⟨-, g1, -, -, g5⟩ := id C1.2.2.2
  obtain ⟨xa, xa1, xa2⟩ := g5 61 (by decide) (by decide)
  obtain ⟨xb, xb1, xb2⟩ := g5 62 (by decide) (by decide)
  obtain ⟨xc, xc1, xc2⟩ := g5 63 (by decide) (by decide)
  obtain ⟨ga1, RA⟩ := RW1.ex xa1 xa2
  obtain ⟨gb1, RB⟩ := RW1.ex xb1 xb2
  obtain ⟨gc1, RC⟩ := RW1.ex xc1 xc2
  have W1 := C1.2.2.2.prw (k := 1) (by decide)
  iterate 2 refine fst1_ok X (dk rfl) rfl ?_
  exact fill 32 0 ga1 gb1 gc1 h1 rfl ⟨S1, NX, g1, RA, RB, RC, W1⟩ (fun y hy => absurd hy (Nat.not_lt_zero y)) (f1.u _) _ rfl
end S23
end Uc23alike2
