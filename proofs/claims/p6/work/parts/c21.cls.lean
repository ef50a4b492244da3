/-! the class, strongly: classes of places (printed by wip/p20/genT7.py) -/
def RW1 (h : AH) (R N : Nat) (f : Nat → Int32) : Prop := ∃ row : List Int32, h R = some (107, row.map Value.int) ∧ row.length = N ∧ ∀ i, i < N → row[i]? = some (f i)
def up1 (f : Nat → Int32) (i : Nat) (v : Int32) : Nat → Int32 := fun j => if j = i then v else f j
theorem RW1.set {h : AH} {R N : Nat} {f : Nat → Int32} (H : RW1 h R N f) {row : List Int32} (hr : h R = some (107, row.map Value.int)) {x : Nat} (hx : x < N) (v : Int32) : RW1 (hup h R (107, (row.set x v).map Value.int)) R N (up1 f x v) := by
  obtain ⟨row2, r1, r2, r3⟩ := H
  have e : row2 = row := by
    rw [r1] at hr
    exact (List.map_inj_right (fun a b z => by cases z; rfl)).mp (Prod.mk.inj (Option.some.inj hr)).2
  subst e
  refine ⟨_, hup_self _ _ _, by rw [List.length_set]; exact r2, fun n hn => ?_⟩
  unfold up1
  by_cases en : n = x
  · subst en
    rw [List.getElem?_set_self (by omega), if_pos rfl]
  · rw [List.getElem?_set_ne (Ne.symm en), if_neg en]
    exact r3 n hn
theorem RW1.out {h : AH} {R N : Nat} {f : Nat → Int32} (H : RW1 h R N f) {a : Nat} (ha : a ≠ R) (c : AC) : RW1 (hup h a c) R N f := by
  obtain ⟨row, r1, r2⟩ := H
  exact ⟨row, by rw [hup_ne _ _ (Ne.symm ha)]; exact r1, r2⟩
theorem RW1.congr {h : AH} {R N : Nat} {f g : Nat → Int32} (H : RW1 h R N f) (e : ∀ i, i < N → f i = g i) : RW1 h R N g := by
  obtain ⟨row, r1, r2, r3⟩ := H
  exact ⟨row, r1, r2, fun i hi => by rw [r3 i hi, e i hi]⟩
/-- the cells that classes write to -/
def LCl (P Q : Nat → Nat) : List Nat := [P 14, Q 61, Q 62, Q 63, Q 66, Q 67]
theorem LCl_p (P Q : Nat → Nat) : P 14 ∈ LCl P Q ∧ Q 66 ∈ LCl P Q ∧ Q 67 ∈ LCl P Q := by unfold LCl; simp
theorem LCl_q (P Q : Nat → Nat) : Q 61 ∈ LCl P Q ∧ Q 62 ∈ LCl P Q ∧ Q 63 ∈ LCl P Q := by unfold LCl; simp
/-- the classes' object: the row of the classes, of the heads, of what names stand for, the pairs -/
def CTG (B Q P : Nat → Nat) (h : AH) (F : Nat → TC) (X : List Nat) (f1 f2 f3 : Nat → Int32) (ps : PL2) : Prop :=
  TS B Q h F ∧ TN (F 51) X ∧ h (P 5) = some (3, [.ref (B 51), .ref (Q 61), .ref (Q 62), .ref (Q 63), .ref (P 14)]) ∧ RW1 h (Q 61) 32 f1 ∧ RW1 h (Q 62) 32 f2 ∧ RW1 h (Q 63) 8 f3 ∧ PRS h (P 14) (Q 66) (Q 67) ps
abbrev nK (k : Nat → Nat) : Nat → Int32 := fun i => nI (k i)
abbrev pK (k : Nat → Option Nat) : Nat → Int32 := fun i => pI (k i)
section CTs
variable {B Q P : Nat → Nat} {h h' : AH} {F : Nat → TC} {X : List Nat} {f1 f2 f3 : Nat → Int32} {ps qs : PL2}
theorem Yne {B Q : Nat → Nat} (Y : LYO B Q) {i j : Nat} (hi : i < 70) (hj : j < 70) (h : i ≠ j) : Q i ≠ Q j := fun z => h (Y.2 _ _ hi hj z)
theorem CTG.s1 (Y : LYO B Q) (T : CTG B Q P h F X f1 f2 f3 ps) {row : List Int32} (hr : h (Q 61) = some (107, row.map Value.int)) {x : Nat} (hx : x < 32) (v : Int32) : CTG B Q P (hup h (Q 61) (107, (row.set x v).map Value.int)) F X (up1 f1 x v) f2 f3 ps := by
  obtain ⟨t1, t2, t3, t4, t5, t6, t7⟩ := T
  exact ⟨t1.outQ Y (by decide) (by decide) hr _, t2, by rw [hup_ne _ _ (k_ne t3 hr (by decide))]; exact t3, t4.set hr hx v, t5.out (Yne Y (by decide) (by decide) (by decide)) _, t6.out (Yne Y (by decide) (by decide) (by decide)) _, t7.out (k_ne hr t7.2.2.1 (by decide)) (Yne Y (by decide) (by decide) (by decide)) (Yne Y (by decide) (by decide) (by decide)) _⟩
theorem CTG.s2 (Y : LYO B Q) (T : CTG B Q P h F X f1 f2 f3 ps) {row : List Int32} (hr : h (Q 62) = some (107, row.map Value.int)) {x : Nat} (hx : x < 32) (v : Int32) : CTG B Q P (hup h (Q 62) (107, (row.set x v).map Value.int)) F X f1 (up1 f2 x v) f3 ps := by
  obtain ⟨t1, t2, t3, t4, t5, t6, t7⟩ := T
  exact ⟨t1.outQ Y (by decide) (by decide) hr _, t2, by rw [hup_ne _ _ (k_ne t3 hr (by decide))]; exact t3, t4.out (Yne Y (by decide) (by decide) (by decide)) _, t5.set hr hx v, t6.out (Yne Y (by decide) (by decide) (by decide)) _, t7.out (k_ne hr t7.2.2.1 (by decide)) (Yne Y (by decide) (by decide) (by decide)) (Yne Y (by decide) (by decide) (by decide)) _⟩
theorem CTG.s3 (Y : LYO B Q) (T : CTG B Q P h F X f1 f2 f3 ps) {row : List Int32} (hr : h (Q 63) = some (107, row.map Value.int)) {x : Nat} (hx : x < 8) (v : Int32) : CTG B Q P (hup h (Q 63) (107, (row.set x v).map Value.int)) F X f1 f2 (up1 f3 x v) ps := by
  obtain ⟨t1, t2, t3, t4, t5, t6, t7⟩ := T
  exact ⟨t1.outQ Y (by decide) (by decide) hr _, t2, by rw [hup_ne _ _ (k_ne t3 hr (by decide))]; exact t3, t4.out (Yne Y (by decide) (by decide) (by decide)) _, t5.out (Yne Y (by decide) (by decide) (by decide)) _, t6.set hr hx v, t7.out (k_ne hr t7.2.2.1 (by decide)) (Yne Y (by decide) (by decide) (by decide)) (Yne Y (by decide) (by decide) (by decide)) _⟩
theorem CTG.pr (Y : LYO B Q) (T : CTG B Q P h F X f1 f2 f3 ps) (H : PRS h' (P 14) (Q 66) (Q 67) qs) (f : FrP (P 14) (Q 66) (Q 67) h h') : CTG B Q P h' F X f1 f2 f3 qs := by
  obtain ⟨t1, t2, t3, t4, t5, t6, t7⟩ := T
  have g3 := t7.2.2.1
  have kp : ∀ {j N : Nat} {g : Nat → Int32}, 60 ≤ j → j < 70 → j ≠ 66 → j ≠ 67 → RW1 h (Q j) N g → RW1 h' (Q j) N g := fun {j N g} h1 h2 n1 n2 ⟨row, r1, r2⟩ => ⟨row, by rw [f (Q j) (k_ne r1 g3 (by decide)) (Yne Y h2 (by decide) n1) (Yne Y h2 (by decide) n2)]; exact r1, r2⟩
  exact ⟨t1.frPw f t7.w (hAq Y (by decide) (by decide) (by decide) (by decide)), t2, f.keep t7.w t3 (by decide) (by decide), kp (by decide) (by decide) (by decide) (by decide) t4, kp (by decide) (by decide) (by decide) (by decide) t5, kp (by decide) (by decide) (by decide) (by decide) t6, H⟩
theorem CTG.congr {g1 g2 : Nat → Int32} (T : CTG B Q P h F X f1 f2 f3 ps) (e1 : ∀ i, i < 32 → f1 i = g1 i) (e2 : ∀ i, i < 32 → f2 i = g2 i) : CTG B Q P h F X g1 g2 f3 ps := by
  obtain ⟨t1, t2, t3, t4, t5, t6, t7⟩ := T
  exact ⟨t1, t2, t3, t4.congr e1, t5.congr e2, t6, t7⟩
end CTs
theorem nI_32' : (Int8.ofInt 32).toInt32 = nI 32 := by decide +kernel
section LC
variable {p : Program} {la : Launch} {e : Env} {R : Room} {s : State} {m : MethodId} {args : Array Value} {below : List Frame} {meth : Method} {c : Code} {Q : State → Prop}
variable {D : va_G} {cA : Nat → ClassId} {B0 pa nL : Nat} {cc : ByteArray} {own : String} {pc k n : Nat} {l : List (Nat × Value)} {r : List Value} {h : AH}
theorem lcmp_ok (X : CX p s m args c D cA B0 nL cc own) {x y : Int64} (hd : decode cc pc = .ok (.lcmp, 1))
    (kk : WS p la e R s m args below meth c Q D cA B0 nL (pc + 1) l (.int (lg_cmp x y) :: r) h k n) : WS p la e R s m args below meth c Q D cA B0 nL pc l (.long y :: .long x :: r) h k n := by
  intro H locs ls hH hls
  exact W.lcmp X.1 X.2.1 hd (kk H locs ls hH hls)
theorem mmin7_ok (X : CX p s m args c D cA B0 nL cc own) {idx x : Nat} (hx : x ≤ 32) (hl : Cond.methodLink own idx yJ9_min_7cf53 ∈ WT) (hd : decode cc pc = .ok (.invokestatic idx, 3)) (hfr : 1 ≤ R.frames) (hlo : (r.map fun v => v.category).sum + 13 ≤ R.locals) (h1 : k ≤ R.cells) (h2 : n ≤ R.slots)
    (kk : WS p la e R s m args below meth c Q D cA B0 nL (pc + 3) l (vI x :: r) h k n) : WS p la e R s m args below meth c Q D cA B0 nL pc l (.int (nI 32) :: vI x :: r) h k n := by
  intro H locs ls hH hls
  refine va_mmin X.1 X.2.1 (X.2.2.1.trans hls.1.symm) X.2.2.2.1 (X.2.2.2.2.1 _ hl) (X.2.2.2.2.1 _ lsJ9_min_7cf53) (X.2.2.2.2.1 _ liJ9) (X.2.2.2.2.1 _ lcJ9_min_7cf53) hfr hlo h1 h2 hd ?_
  rw [if_neg (fun z => by have := (nI_ltI (by omega) (by omega)).mp z; omega)]
  exact kk H locs ls hH hls
end LC
def nL (m : Nat) : Int64 := Int64.ofNat m
theorem nL_or (a b : Nat) : nL a ||| nL b = nL (a ||| b) := by
  apply Int64.toBitVec_inj.mp
  show BitVec.ofNat 64 a ||| BitVec.ofNat 64 b = BitVec.ofNat 64 (a ||| b)
  apply BitVec.eq_of_getLsbD_eq
  intro i hi
  rw [BitVec.getLsbD_or, BitVec.getLsbD_ofNat, BitVec.getLsbD_ofNat, BitVec.getLsbD_ofNat, Nat.testBit_or]
  simp [hi]
theorem nL_shl : ∀ k : Nat, k < 32 → nL 1 <<< ((nI k).toInt64 &&& 63) = nL (2 ^ k) := by decide +kernel
theorem nL_sh1 : ∀ k : Nat, k < 32 → (((nI k).toInt64 &&& 63).toBitVec.smod 64).toNat = k := by decide +kernel
theorem lbit {m k : Nat} (hk : k < 32) : (nL m >>> ((nI k).toInt64 &&& 63)) &&& nL 1 = nL (m >>> k % 2) := by
  apply Int64.toBitVec_inj.mp
  rw [Int64.toBitVec_and, Int64.toBitVec_shiftRight]
  apply BitVec.eq_of_getLsbD_eq
  intro i hi
  rw [BitVec.getLsbD_and, BitVec.sshiftRight', nL_sh1 k hk, BitVec.getLsbD_sshiftRight]
  show _ = (BitVec.ofNat 64 (m >>> k % 2)).getLsbD i
  have e1 : (nL m).toBitVec = BitVec.ofNat 64 m := rfl
  have e2 : (nL 1).toBitVec = BitVec.ofNat 64 1 := rfl
  rw [e1, e2, BitVec.getLsbD_ofNat, BitVec.getLsbD_ofNat, BitVec.getLsbD_ofNat]
  have hb : (m >>> k % 2).testBit i = (decide (i = 0) && m.testBit k) := by
    have h2 := bt_tb m k
    unfold bt at h2
    rcases Nat.mod_two_eq_zero_or_one (m >>> k) with z | z
    · rw [z, Nat.zero_testBit]
      have : m.testBit k = false := by
        cases h3 : m.testBit k with
        | false => rfl
        | true => rw [h2.mpr h3] at z; cases z
      rw [this, Bool.and_false]
    · rw [z, h2.mp z, Bool.and_true, show (1 : Nat) = 2 ^ 0 from rfl, Nat.testBit_two_pow]
      by_cases h0 : i = 0
      · subst h0; rfl
      · rw [decide_eq_false h0, decide_eq_false (Ne.symm h0)]
  have h1 : (1 : Nat).testBit i = decide (i = 0) := by
    rw [show (1 : Nat) = 2 ^ 0 from rfl, Nat.testBit_two_pow]
    by_cases h0 : i = 0
    · subst h0; rfl
    · rw [decide_eq_false h0, decide_eq_false (Ne.symm h0)]
  rw [hb, h1]
  by_cases h0 : i = 0
  · subst h0
    rw [Nat.add_zero, if_pos (by omega)]
    simp
    omega
  · rw [decide_eq_false h0]
    simp
section S21
variable {la : Launch} {D : va_G} {cA : Nat → ClassId} {B0 pa : Nat} {B Q P : Nat → Nat} {F : Nat → TC} {X1 : List Nat} {f1 f2 f3 : Nat → Int32} {ps : PL2}
set_option maxHeartbeats 4000000 in
theorem s1_classAt (h : AH) (T : CTG B Q P h F X1 f1 f2 f3 ps) {z : Nat} (hz : z < 32) : CT la D cA B0 pa yX1_classAt cX1_classAt 2 (some .int) (rmD 0 0 0) [.ref (P 5), vI z] h (RP (.int (f1 z)) h) := by
  refine CT_of (by decide +kernel) (Nat.le_of_ble_eq_true rfl) ?_
  intro p e s m args below meth c X E hr hlk hnm
  have dk : ∀ {pc : Nat} {q : Instr × Nat}, lkd DX1_classAt pc = some q → decode cX1_classAt pc = .ok q := lkd_ok DX1_classAt_ok
  obtain ⟨t1, t2, t3, t4, t5, t6, t7⟩ := T
  obtain ⟨row, r1, r2, r3⟩ := t4
  refine fst1_ok X (dk rfl) rfl ?_
  refine br_ok X (dk rfl) rfl (show ((1 : Nat) : Int) + 18 = ((19 : Nat) : Int) from rfl) (fun q => absurd q (nI_pos (by omega))) (fun _ => ?_)
  iterate 2 refine fst1_ok X (dk rfl) rfl ?_
  refine br_ok X (dk rfl) rfl (show ((7 : Nat) : Int) + 12 = ((19 : Nat) : Int) from rfl) (fun q => absurd q (by rw [nI_32']; exact nI_ge (by omega) (by omega))) (fun _ => ?_)
  refine fst1_ok X (dk rfl) rfl ?_
  refine getf_ok X flX1_20 (dk rfl) t3 rfl ?_
  refine fst1_ok X (dk rfl) rfl ?_
  refine ald7v_ok X (dk rfl) r1 (nI_pos (by omega)) (by rw [nI_clamp (by omega)]; exact r3 z hz) ?_
  refine br_ok X (dk rfl) rfl (show ((16 : Nat) : Int) + 4 = ((20 : Nat) : Int) from rfl) (fun _ => ?_) (fun q => absurd trivial q)
  exact reti_ok X hr hlk rfl (dk rfl) (⟨rfl, rfl⟩) (Nat.le_of_ble_eq_true rfl) (Nat.le_of_ble_eq_true rfl)
set_option maxHeartbeats 4000000 in
theorem s1_classAtN (h : AH) (T : CTG B Q P h F X1 f1 f2 f3 ps) : CT la D cA B0 pa yX1_classAt cX1_classAt 2 (some .int) (rmD 0 0 0) [.ref (P 5), .int (Int32.ofInt (-1))] h (RP (.int (Int32.ofInt (-1))) h) := by
  refine CT_of (by decide +kernel) (Nat.le_of_ble_eq_true rfl) ?_
  intro p e s m args below meth c X E hr hlk hnm
  have dk : ∀ {pc : Nat} {q : Instr × Nat}, lkd DX1_classAt pc = some q → decode cX1_classAt pc = .ok q := lkd_ok DX1_classAt_ok
  refine fst1_ok X (dk rfl) rfl ?_
  refine br_ok X (dk rfl) rfl (show ((1 : Nat) : Int) + 18 = ((19 : Nat) : Int) from rfl) (fun _ => ?_) (fun q => absurd (by decide +kernel) q)
  refine fst1_ok X (dk rfl) rfl ?_
  exact reti_ok X hr hlk rfl (dk rfl) (⟨rfl, rfl⟩) (Nat.le_of_ble_eq_true rfl) (Nat.le_of_ble_eq_true rfl)
set_option maxHeartbeats 4000000 in
theorem s1_headAt (h : AH) (T : CTG B Q P h F X1 f1 f2 f3 ps) {z : Nat} (hz : z < 32) : CT la D cA B0 pa yX1_headAt cX1_headAt 2 (some .int) (rmD 0 0 0) [.ref (P 5), vI z] h (RP (.int (f2 z)) h) := by
  refine CT_of (by decide +kernel) (Nat.le_of_ble_eq_true rfl) ?_
  intro p e s m args below meth c X E hr hlk hnm
  have dk : ∀ {pc : Nat} {q : Instr × Nat}, lkd DX1_headAt pc = some q → decode cX1_headAt pc = .ok q := lkd_ok DX1_headAt_ok
  obtain ⟨t1, t2, t3, t4, t5, t6, t7⟩ := T
  obtain ⟨row, r1, r2, r3⟩ := t5
  refine fst1_ok X (dk rfl) rfl ?_
  refine br_ok X (dk rfl) rfl (show ((1 : Nat) : Int) + 18 = ((19 : Nat) : Int) from rfl) (fun q => absurd q (nI_pos (by omega))) (fun _ => ?_)
  iterate 2 refine fst1_ok X (dk rfl) rfl ?_
  refine br_ok X (dk rfl) rfl (show ((7 : Nat) : Int) + 12 = ((19 : Nat) : Int) from rfl) (fun q => absurd q (by rw [nI_32']; exact nI_ge (by omega) (by omega))) (fun _ => ?_)
  refine fst1_ok X (dk rfl) rfl ?_
  refine getf_ok X flX1_24 (dk rfl) t3 rfl ?_
  refine fst1_ok X (dk rfl) rfl ?_
  refine ald7v_ok X (dk rfl) r1 (nI_pos (by omega)) (by rw [nI_clamp (by omega)]; exact r3 z hz) ?_
  refine br_ok X (dk rfl) rfl (show ((16 : Nat) : Int) + 4 = ((20 : Nat) : Int) from rfl) (fun _ => ?_) (fun q => absurd trivial q)
  exact reti_ok X hr hlk rfl (dk rfl) (⟨rfl, rfl⟩) (Nat.le_of_ble_eq_true rfl) (Nat.le_of_ble_eq_true rfl)
set_option maxHeartbeats 4000000 in
theorem s1_headAtN (h : AH) (T : CTG B Q P h F X1 f1 f2 f3 ps) : CT la D cA B0 pa yX1_headAt cX1_headAt 2 (some .int) (rmD 0 0 0) [.ref (P 5), .int (Int32.ofInt (-1))] h (RP (.int (Int32.ofInt (-1))) h) := by
  refine CT_of (by decide +kernel) (Nat.le_of_ble_eq_true rfl) ?_
  intro p e s m args below meth c X E hr hlk hnm
  have dk : ∀ {pc : Nat} {q : Instr × Nat}, lkd DX1_headAt pc = some q → decode cX1_headAt pc = .ok q := lkd_ok DX1_headAt_ok
  refine fst1_ok X (dk rfl) rfl ?_
  refine br_ok X (dk rfl) rfl (show ((1 : Nat) : Int) + 18 = ((19 : Nat) : Int) from rfl) (fun _ => ?_) (fun q => absurd (by decide +kernel) q)
  refine fst1_ok X (dk rfl) rfl ?_
  exact reti_ok X hr hlk rfl (dk rfl) (⟨rfl, rfl⟩) (Nat.le_of_ble_eq_true rfl) (Nat.le_of_ble_eq_true rfl)
set_option maxHeartbeats 32000000 in
theorem s1_join (h : AH) (Y : LYO B Q) {k : Nat → Nat} {hd : Nat → Option Nat} (T : CTG B Q P h F X1 (nK k) (pK hd) f3 ps) (hX : BX X1) {zl zr : Nat} (hzl : zl < 32) (hzr : zr < 32) (hkb : ∀ i, i < 32 → k i < 32) (hhl : ∀ a, hd zl = some a → a < X1.length) (hhr : ∀ a, hd zr = some a → a < X1.length) (hl3 : ps.length + 3 ≤ 128) : CT la D cA B0 pa yX1_join cX1_join 6 (some .boolean) (rmD 3 0 0) [.ref (P 5), vI zl, vI zr] h (fun v h' => (∃ a b, hd zl = some a ∧ hd zr = some b ∧ gl X1 a ≠ gl X1 b ∧ v = some (.int (bI false)) ∧ h' = h) ∨ (v = some (.int (bI true)) ∧ (∀ a b, hd zl = some a → hd zr = some b → gl X1 a = gl X1 b) ∧ CTG B Q P h' F X1 (nK (mgK k zl zr)) (pK (fun y => if y = zl ∧ hd zl = none then hd zr else hd y)) f3 (ps ++ (match hd zl, hd zr with | some a, some b => (kdL X1 a b (ga X1 a) 0).reverse | _, _ => [])) ∧ FrU B Q (LCl P Q) h h')) := by
  refine CT_of (by decide +kernel) (Nat.le_of_ble_eq_true rfl) ?_
  intro p e s m args below meth c X E hr hlk hnm
  have dk : ∀ {pc : Nat} {q : Instr × Nat}, lkd DX1_join pc = some q → decode cX1_join pc = .ok q := lkd_ok DX1_join_ok
  have hX32 := hX.2.2
  obtain ⟨t1, t2, t3, t4, t5, t6, t7⟩ := id T
  have hL := LCl_q P Q
  have hLp := LCl_p P Q
  have tail : ∀ (h1 : AH), (∀ a b, hd zl = some a → hd zr = some b → gl X1 a = gl X1 b) → CTG B Q P h1 F X1 (nK (mgK k zl zr)) (pK hd) f3 (ps ++ (match hd zl, hd zr with | some a, some b => (kdL X1 a b (ga X1 a) 0).reverse | _, _ => [])) → FrU B Q (LCl P Q) h h1 → ∀ l : List (Nat × Value), lsel l [4, 3, 2, 1, 0] = [(4, .int (pI (hd zr))), (3, .int (pI (hd zl))), (2, vI zr), (1, vI zl), (0, .ref (P 5))] → WR p la e (rmD 3 0 0) s m args below meth c D cA B0 6 (fun v h' => (∃ a b, hd zl = some a ∧ hd zr = some b ∧ gl X1 a ≠ gl X1 b ∧ v = some (.int (bI false)) ∧ h' = h) ∨ (v = some (.int (bI true)) ∧ (∀ a b, hd zl = some a → hd zr = some b → gl X1 a = gl X1 b) ∧ CTG B Q P h' F X1 (nK (mgK k zl zr)) (pK (fun y => if y = zl ∧ hd zl = none then hd zr else hd y)) f3 (ps ++ (match hd zl, hd zr with | some a, some b => (kdL X1 a b (ga X1 a) 0).reverse | _, _ => [])) ∧ FrU B Q (LCl P Q) h h')) 95 l [] h1 0 0 := by
    intro h1 hgg T1 f1 l hl
    obtain ⟨g1, g2, g3, g4, ⟨row, r1, r2, r3⟩, g6, g7⟩ := id T1
    refine WS.sel [4, 3, 2, 1, 0] hl ?_
    refine fst1_ok X (dk rfl) rfl ?_
    refine br_ok X (dk rfl) rfl (show ((96 : Nat) : Int) + 22 = ((118 : Nat) : Int) from rfl) (fun q => absurd q (nI_pos (by omega))) (fun _ => ?_)
    iterate 2 refine fst1_ok X (dk rfl) rfl ?_
    refine br_ok X (dk rfl) rfl (show ((102 : Nat) : Int) + 16 = ((118 : Nat) : Int) from rfl) (fun q => absurd q (by rw [nI_32']; exact nI_ge (by omega) (by omega))) (fun _ => ?_)
    iterate 2 refine fst1_ok X (dk rfl) rfl ?_
    have ecs : hd zl = none ∨ ∃ a, hd zl = some a := by cases hd zl with | none => exact Or.inl rfl | some a => exact Or.inr ⟨a, rfl⟩
    rcases ecs with el | ⟨a, el⟩
    · refine br_ok X (dk rfl) rfl (show ((107 : Nat) : Int) + 11 = ((118 : Nat) : Int) from rfl) (fun q => absurd (show pI (hd zl) = Int32.ofInt (-1) by rw [el]; rfl) q) (fun _ => ?_)
      refine fst1_ok X (dk rfl) rfl ?_
      refine getf_ok X flX1_24 (dk rfl) g3 rfl ?_
      iterate 2 refine fst1_ok X (dk rfl) rfl ?_
      refine ast7_ok X (dk rfl) r1 (nI_pos (by omega)) (by rw [nI_clamp (by omega)]; omega) ?_
      rw [nI_clamp (by omega)]
      have T2 := T1.s2 Y r1 (x := zl) (by omega) (pI (hd zr))
      have T3 := T2.congr (g1 := nK (mgK k zl zr)) (g2 := pK (fun y => if y = zl ∧ hd zl = none then hd zr else hd y)) (fun i _ => rfl) (fun i _ => by
        unfold up1
        show (if i = zl then pI (hd zr) else pI (hd i)) = pI (if i = zl ∧ hd zl = none then hd zr else hd i)
        by_cases ei : i = zl
        · rw [if_pos ei, if_pos ⟨ei, el⟩]
        · rw [if_neg ei, if_neg (fun z => ei z.1)])
      refine fst1_ok X (dk rfl) rfl ?_
      exact reti_ok X hr hlk (bI_n true) (dk rfl) (Or.inr ⟨rfl, hgg, T3, f1.set hL.2.1 _⟩) (Nat.le_of_ble_eq_true rfl) (Nat.le_of_ble_eq_true rfl)
    · have ha := hhl a el
      refine br_ok X (dk rfl) rfl (show ((107 : Nat) : Int) + 11 = ((118 : Nat) : Int) from rfl) (fun _ => ?_) (fun q => absurd (show pI (hd zl) ≠ Int32.ofInt (-1) by rw [el]; exact nI_m1 (by omega)) q)
      refine fst1_ok X (dk rfl) rfl ?_
      have T3 := T1.congr (g1 := nK (mgK k zl zr)) (g2 := pK (fun y => if y = zl ∧ hd zl = none then hd zr else hd y)) (fun i _ => rfl) (fun i _ => by
        show pI (hd i) = pI (if i = zl ∧ hd zl = none then hd zr else hd i)
        rw [if_neg (fun z => by rw [el] at z; cases z.2)])
      exact reti_ok X hr hlk (bI_n true) (dk rfl) (Or.inr ⟨rfl, hgg, T3, f1⟩) (Nat.le_of_ble_eq_true rfl) (Nat.le_of_ble_eq_true rfl)
  have mid : ∀ (h0 : AH), (∀ a b, hd zl = some a → hd zr = some b → gl X1 a = gl X1 b) → CTG B Q P h0 F X1 (nK k) (pK hd) f3 (ps ++ (match hd zl, hd zr with | some a, some b => (kdL X1 a b (ga X1 a) 0).reverse | _, _ => [])) → FrU B Q (LCl P Q) h h0 → ∀ l : List (Nat × Value), lsel l [4, 3, 2, 1, 0] = [(4, .int (pI (hd zr))), (3, .int (pI (hd zl))), (2, vI zr), (1, vI zl), (0, .ref (P 5))] → WR p la e (rmD 3 0 0) s m args below meth c D cA B0 6 (fun v h' => (∃ a b, hd zl = some a ∧ hd zr = some b ∧ gl X1 a ≠ gl X1 b ∧ v = some (.int (bI false)) ∧ h' = h) ∨ (v = some (.int (bI true)) ∧ (∀ a b, hd zl = some a → hd zr = some b → gl X1 a = gl X1 b) ∧ CTG B Q P h' F X1 (nK (mgK k zl zr)) (pK (fun y => if y = zl ∧ hd zl = none then hd zr else hd y)) f3 (ps ++ (match hd zl, hd zr with | some a, some b => (kdL X1 a b (ga X1 a) 0).reverse | _, _ => [])) ∧ FrU B Q (LCl P Q) h h')) 60 l [] h0 0 0 := by
    intro h0 hgg T0 f0 l hl
    have loop : ∀ (u i : Nat) (h1 : AH), u + i = 32 → CTG B Q P h1 F X1 (fun j => if j < i then nI (mgK k zl zr j) else nI (k j)) (pK hd) f3 (ps ++ (match hd zl, hd zr with | some a, some b => (kdL X1 a b (ga X1 a) 0).reverse | _, _ => [])) → FrU B Q (LCl P Q) h h1 → ∀ l : List (Nat × Value), lsel l [5, 4, 3, 2, 1, 0] = [(5, vI i), (4, .int (pI (hd zr))), (3, .int (pI (hd zl))), (2, vI zr), (1, vI zl), (0, .ref (P 5))] → WR p la e (rmD 3 0 0) s m args below meth c D cA B0 6 (fun v h' => (∃ a b, hd zl = some a ∧ hd zr = some b ∧ gl X1 a ≠ gl X1 b ∧ v = some (.int (bI false)) ∧ h' = h) ∨ (v = some (.int (bI true)) ∧ (∀ a b, hd zl = some a → hd zr = some b → gl X1 a = gl X1 b) ∧ CTG B Q P h' F X1 (nK (mgK k zl zr)) (pK (fun y => if y = zl ∧ hd zl = none then hd zr else hd y)) f3 (ps ++ (match hd zl, hd zr with | some a, some b => (kdL X1 a b (ga X1 a) 0).reverse | _, _ => [])) ∧ FrU B Q (LCl P Q) h h')) 63 l [] h1 0 0 := by
      intro u
      induction u with
      | zero =>
        intro i h1 hi T1 f1 l hl
        have hi2 : i = 32 := by omega
        subst hi2
        refine WS.sel [5, 4, 3, 2, 1, 0] hl ?_
        iterate 2 refine fst1_ok X (dk rfl) rfl ?_
        refine br_ok X (dk rfl) rfl (show ((67 : Nat) : Int) + 28 = ((95 : Nat) : Int) from rfl) (fun _ => ?_) (fun q => absurd (by rw [nI_32']; exact Int32.le_refl _) q)
        exact tail h1 hgg (T1.congr (g1 := nK (mgK k zl zr)) (g2 := pK hd) (fun j hj => if_pos hj) (fun j _ => rfl)) f1 _ rfl
      | succ u ih =>
        intro i h1 hi T1 f1 l hl
        obtain ⟨g1, g2, g3, ⟨row, r1, r2, r3⟩, g5, g6, g7⟩ := id T1
        have f3' : Value.int (nI i + Int32.ofInt 1) = vI (i + 1) := congrArg Value.int (by rw [nI_1', nI_add])
        have hki := hkb i (by omega)
        refine WS.sel [5, 4, 3, 2, 1, 0] hl ?_
        iterate 2 refine fst1_ok X (dk rfl) rfl ?_
        refine br_ok X (dk rfl) rfl (show ((67 : Nat) : Int) + 28 = ((95 : Nat) : Int) from rfl) (fun q => absurd q (by rw [nI_32']; exact nI_ge (by omega) (by omega))) (fun _ => ?_)
        refine fst1_ok X (dk rfl) rfl ?_
        refine getf_ok X flX1_20 (dk rfl) g3 rfl ?_
        refine fst1_ok X (dk rfl) rfl ?_
        refine ald7v_ok X (dk rfl) r1 (nI_pos (by omega)) (by rw [nI_clamp (by omega)]; exact r3 i (by omega)) ?_
        rw [show (fun j => if j < i then nI (mgK k zl zr j) else nI (k j)) i = nI (k i) from if_neg (Nat.lt_irrefl i)]
        refine fst1_ok X (dk rfl) rfl ?_
        by_cases ek : k i = zr
        · refine br_ok X (dk rfl) rfl (show ((78 : Nat) : Int) + 11 = ((89 : Nat) : Int) from rfl) (fun q => absurd (by rw [ek]) q) (fun _ => ?_)
          refine fst1_ok X (dk rfl) rfl ?_
          refine getf_ok X flX1_20 (dk rfl) g3 rfl ?_
          iterate 2 refine fst1_ok X (dk rfl) rfl ?_
          refine ast7_ok X (dk rfl) r1 (nI_pos (by omega)) (by rw [nI_clamp (by omega)]; omega) ?_
          rw [nI_clamp (by omega)]
          have T2 := T1.s1 Y r1 (x := i) (by omega) (nI zl)
          have T3 := T2.congr (g1 := fun j => if j < i + 1 then nI (mgK k zl zr j) else nI (k j)) (g2 := pK hd) (fun j hj => by
            unfold up1
            dsimp only
            by_cases ej : j = i
            · subst ej
              rw [if_pos rfl, if_pos (by omega)]
              unfold mgK
              rw [if_pos ek]
            · rw [if_neg ej]
              by_cases c : j < i
              · rw [if_pos c, if_pos (by omega)]
              · rw [if_neg c, if_neg (by omega)]) (fun j _ => rfl)
          refine fst1_ok X (dk rfl) rfl ?_
          refine br_ok X (dk rfl) rfl (show ((92 : Nat) : Int) + (-29) = ((63 : Nat) : Int) from rfl) (fun _ => ?_) (fun q => absurd trivial q)
          refine WS.sel (l' := [(5, vI (i + 1)), (4, .int (pI (hd zr))), (3, .int (pI (hd zl))), (2, vI zr), (1, vI zl), (0, .ref (P 5))]) [5, 4, 3, 2, 1, 0] (by rw [← f3']; rfl) ?_
          exact ih (i + 1) _ (by omega) T3 (f1.set hL.1 _) _ rfl
        · refine br_ok X (dk rfl) rfl (show ((78 : Nat) : Int) + 11 = ((89 : Nat) : Int) from rfl) (fun _ => ?_) (fun q => absurd (fun z => ek (nI_inj (by omega) (by omega) z)) q)
          have T3 := T1.congr (g1 := fun j => if j < i + 1 then nI (mgK k zl zr j) else nI (k j)) (g2 := pK hd) (fun j hj => by
            show (if j < i then nI (mgK k zl zr j) else nI (k j)) = (if j < i + 1 then nI (mgK k zl zr j) else nI (k j))
            by_cases ej : j = i
            · subst ej
              rw [if_neg (Nat.lt_irrefl j), if_pos (by omega)]
              unfold mgK
              rw [if_neg ek]
            · by_cases c : j < i
              · rw [if_pos c, if_pos (by omega)]
              · rw [if_neg c, if_neg (by omega)]) (fun j _ => rfl)
          refine fst1_ok X (dk rfl) rfl ?_
          refine br_ok X (dk rfl) rfl (show ((92 : Nat) : Int) + (-29) = ((63 : Nat) : Int) from rfl) (fun _ => ?_) (fun q => absurd trivial q)
          refine WS.sel (l' := [(5, vI (i + 1)), (4, .int (pI (hd zr))), (3, .int (pI (hd zl))), (2, vI zr), (1, vI zl), (0, .ref (P 5))]) [5, 4, 3, 2, 1, 0] (by rw [← f3']; rfl) ?_
          exact ih (i + 1) _ (by omega) T3 f1 _ rfl
    refine WS.sel [4, 3, 2, 1, 0] hl ?_
    iterate 2 refine fst1_ok X (dk rfl) rfl ?_
    exact loop 32 0 h0 rfl (T0.congr (fun j _ => (if_neg (Nat.not_lt_zero j)).symm) (fun j _ => rfl)) f0 _ rfl
  iterate 2 refine fst1_ok X (dk rfl) rfl ?_
  refine callVR_ok (ci := 3) (T := TX1) (N := 5) (av := [vI zl]) (r := []) X E (s1_headAt h T (z := zl) hzl) lkX1_headAt mlX1_94 lmX1_headAt lpX1_headAt ⟨Nat.le_of_ble_eq_true rfl, Nat.le_of_ble_eq_true rfl⟩ ⟨Nat.le_of_ble_eq_true rfl, Nat.le_of_ble_eq_true rfl⟩ rfl ⟨_, t3⟩ (Nat.le_of_ble_eq_true rfl) (dk rfl) ?_
  rintro _ rfl
  iterate 3 refine fst1_ok X (dk rfl) rfl ?_
  refine callVR_ok (ci := 3) (T := TX1) (N := 5) (av := [vI zr]) (r := []) X E (s1_headAt h T (z := zr) hzr) lkX1_headAt mlX1_94 lmX1_headAt lpX1_headAt ⟨Nat.le_of_ble_eq_true rfl, Nat.le_of_ble_eq_true rfl⟩ ⟨Nat.le_of_ble_eq_true rfl, Nat.le_of_ble_eq_true rfl⟩ rfl ⟨_, t3⟩ (Nat.le_of_ble_eq_true rfl) (dk rfl) ?_
  rintro _ rfl
  iterate 3 refine fst1_ok X (dk rfl) rfl ?_
  have ecs : ∀ z, hd z = none ∨ ∃ a, hd z = some a := fun z => by cases hd z with | none => exact Or.inl rfl | some a => exact Or.inr ⟨a, rfl⟩
  rcases ecs zl with el | ⟨a, el⟩
  · refine br_ok X (dk rfl) rfl (show ((15 : Nat) : Int) + 45 = ((60 : Nat) : Int) from rfl) (fun _ => ?_) (fun q => absurd (show pI (hd zl) = Int32.ofInt (-1) by rw [el]; rfl) q)
    exact mid h (fun a b z => by rw [el] at z; cases z) (by rw [el]; dsimp only; rw [List.append_nil]; exact T) (FrU.rf h) _ rfl
  · have ha := hhl a el
    refine br_ok X (dk rfl) rfl (show ((15 : Nat) : Int) + 45 = ((60 : Nat) : Int) from rfl) (fun q => absurd q (show pI (hd zl) ≠ Int32.ofInt (-1) by rw [el]; exact nI_m1 (by omega))) (fun _ => ?_)
    iterate 2 refine fst1_ok X (dk rfl) rfl ?_
    rcases ecs zr with er | ⟨b, er⟩
    · refine br_ok X (dk rfl) rfl (show ((21 : Nat) : Int) + 39 = ((60 : Nat) : Int) from rfl) (fun _ => ?_) (fun q => absurd (show pI (hd zr) = Int32.ofInt (-1) by rw [er]; rfl) q)
      exact mid h (fun a b _ z => by rw [er] at z; cases z) (by rw [el, er]; dsimp only; rw [List.append_nil]; exact T) (FrU.rf h) _ rfl
    · have hb := hhr b er
      have hga := gl_get ha
      have hgb := gl_get hb
      have lta := (gl_ok hX ha).lt
      have ltb := (gl_ok hX hb).lt
      refine br_ok X (dk rfl) rfl (show ((21 : Nat) : Int) + 39 = ((60 : Nat) : Int) from rfl) (fun q => absurd q (show pI (hd zr) ≠ Int32.ofInt (-1) by rw [er]; exact nI_m1 (by omega))) (fun _ => ?_)
      rw [show pK hd zl = nI a by show pI (hd zl) = nI a; rw [el]; rfl, show pK hd zr = nI b by show pI (hd zr) = nI b; rw [er]; rfl]
      refine fst1_ok X (dk rfl) rfl ?_
      refine getf_ok X flX1_16 (dk rfl) t3 rfl ?_
      refine fst1_ok X (dk rfl) rfl ?_
      refine callVR_ok (ci := 7) (T := TX5) (N := 3) (av := [vI a]) (r := []) X E (s5_letterAt h t1 (i := 51) (by omega) (nI a)) lkX5_letterAt mlX1_45 lmX5_letterAt lpX5_letterAt ⟨Nat.le_of_ble_eq_true rfl, Nat.le_of_ble_eq_true rfl⟩ ⟨Nat.le_of_ble_eq_true rfl, Nat.le_of_ble_eq_true rfl⟩ rfl ⟨_, (t1 51 (by omega)).2.1⟩ (Nat.le_of_ble_eq_true rfl) (dk rfl) ?_
      rintro _ rfl
      rw [t2.lt hga (by omega)]
      refine fst1_ok X (dk rfl) rfl ?_
      refine getf_ok X flX1_16 (dk rfl) t3 rfl ?_
      refine fst1_ok X (dk rfl) rfl ?_
      refine callVR_ok (ci := 7) (T := TX5) (N := 3) (av := [vI b]) (r := [vI (gl X1 a)]) X E (s5_letterAt h t1 (i := 51) (by omega) (nI b)) lkX5_letterAt mlX1_45 lmX5_letterAt lpX5_letterAt ⟨Nat.le_of_ble_eq_true rfl, Nat.le_of_ble_eq_true rfl⟩ ⟨Nat.le_of_ble_eq_true rfl, Nat.le_of_ble_eq_true rfl⟩ rfl ⟨_, (t1 51 (by omega)).2.1⟩ (Nat.le_of_ble_eq_true rfl) (dk rfl) ?_
      rintro _ rfl
      rw [t2.lt hgb (by omega)]
      by_cases hg : gl X1 a = gl X1 b
      · refine br_ok X (dk rfl) rfl (show ((41 : Nat) : Int) + 5 = ((46 : Nat) : Int) from rfl) (fun _ => ?_) (fun q => absurd (by rw [hg]) q)
        refine fst1_ok X (dk rfl) rfl ?_
        refine getf_ok X flX1_33 (dk rfl) t3 rfl ?_
        refine fst1_ok X (dk rfl) rfl ?_
        refine getf_ok X flX1_16 (dk rfl) t3 rfl ?_
        iterate 2 refine fst1_ok X (dk rfl) rfl ?_
        have hga3 := ga_le hX ha
        refine callV_ok (ci := 4) (T := TX2) (N := 3) (av := [.ref (B 51), vI a, vI b]) (r := []) X E (s2_addParts h t7 (Yne Y (by decide) (by decide) (by decide)) (hAq Y (by decide) (by decide) (by decide) (by decide)) t1 (i := 51) (by omega) hX t2 ha hb hg (by omega)) lkX2_addParts mlX1_97 lmX2_addParts lpX2_addParts ⟨Nat.le_of_ble_eq_true rfl, Nat.le_of_ble_eq_true rfl⟩ ⟨Nat.le_of_ble_eq_true rfl, Nat.le_of_ble_eq_true rfl⟩ rfl t7.2.2.1 (Nat.le_of_ble_eq_true rfl) (dk rfl) ?_
        rintro _ h1 ⟨rfl, H1, f1⟩
        exact mid h1 (fun a2 b2 z1 z2 => by rw [el] at z1; rw [er] at z2; cases z1; cases z2; exact hg) (by rw [el, er]; exact T.pr Y H1 f1) (f1.u hLp) _ (by rw [el, er]; rfl)
      · refine br_ok X (dk rfl) rfl (show ((41 : Nat) : Int) + 5 = ((46 : Nat) : Int) from rfl) (fun q => absurd (nI_inj (by omega) (by omega) q) hg) (fun _ => ?_)
        refine fst1_ok X (dk rfl) rfl ?_
        exact reti_ok X hr hlk (bI_n false) (dk rfl) (Or.inl ⟨a, b, el, er, hg, rfl, rfl⟩) (Nat.le_of_ble_eq_true rfl) (Nat.le_of_ble_eq_true rfl)
set_option maxHeartbeats 16000000 in
theorem s1_isClear (h : AH) {k : Nat → Nat} {hd : Nat → Option Nat} (T : CTG B Q P h F X1 (nK k) (pK hd) f3 ps) (hX : BX X1) {z mk : Nat} (hz : z < 32) (hkb : ∀ i, i < 32 → k i < 32) (hha : ∀ a, hd z = some a → a < X1.length) : CT la D cA B0 pa yX1_isClear cX1_isClear 7 (some .boolean) (rmD 2 0 0) [.ref (P 5), vI z, .long (nL mk)] h (fun v h' => (∃ b : Bool, v = some (.int (bI b)) ∧ (b = true ↔ ∀ a, hd z = some a → ∀ j, j < ga X1 a → bt mk (k (ko X1 a j)))) ∧ h' = h) := by
  refine CT_of (by decide +kernel) (Nat.le_of_ble_eq_true rfl) ?_
  intro p e s m args below meth c X E hr hlk hnm
  have dk : ∀ {pc : Nat} {q : Instr × Nat}, lkd DX1_isClear pc = some q → decode cX1_isClear pc = .ok q := lkd_ok DX1_isClear_ok
  have hX32 := hX.2.2
  obtain ⟨t1, t2, t3, t4, t5, t6, t7⟩ := id T
  iterate 2 refine fst1_ok X (dk rfl) rfl ?_
  refine callVR_ok (ci := 3) (T := TX1) (N := 5) (av := [vI z]) (r := []) X E (s1_headAt h T hz) lkX1_headAt mlX1_94 lmX1_headAt lpX1_headAt ⟨Nat.le_of_ble_eq_true rfl, Nat.le_of_ble_eq_true rfl⟩ ⟨Nat.le_of_ble_eq_true rfl, Nat.le_of_ble_eq_true rfl⟩ rfl ⟨_, t3⟩ (Nat.le_of_ble_eq_true rfl) (dk rfl) ?_
  rintro _ rfl
  iterate 3 refine fst1_ok X (dk rfl) rfl ?_
  have ecs : hd z = none ∨ ∃ a, hd z = some a := by cases hd z with | none => exact Or.inl rfl | some a => exact Or.inr ⟨a, rfl⟩
  rcases ecs with eh | ⟨a, eh⟩
  · refine br_ok X (dk rfl) rfl (show ((10 : Nat) : Int) + 5 = ((15 : Nat) : Int) from rfl) (fun q => absurd (show pI (hd z) = Int32.ofInt (-1) by rw [eh]; rfl) q) (fun _ => ?_)
    refine fst1_ok X (dk rfl) rfl ?_
    exact reti_ok X hr hlk (bI_n true) (dk rfl) (⟨⟨true, rfl, ⟨fun _ a ea => (by rw [eh] at ea; cases ea), fun _ => rfl⟩⟩, rfl⟩) (Nat.le_of_ble_eq_true rfl) (Nat.le_of_ble_eq_true rfl)
  · have ha := hha a eh
    have hga := gl_get ha
    have lta := (gl_ok hX ha).lt
    have hga3 := ga_le hX ha
    rw [show pK hd z = nI a by show pI (hd z) = nI a; rw [eh]; rfl]
    refine br_ok X (dk rfl) rfl (show ((10 : Nat) : Int) + 5 = ((15 : Nat) : Int) from rfl) (fun _ => ?_) (fun q => absurd (nI_m1 (by omega)) q)
    iterate 5 refine fst1_ok X (dk rfl) rfl ?_
    refine getf_ok X flX1_16 (dk rfl) t3 rfl ?_
    refine fst1_ok X (dk rfl) rfl ?_
    refine callVR_ok (ci := 7) (T := TX5) (N := 3) (av := [vI a]) (r := []) X E (s5_letterAt h t1 (i := 51) (by omega) (nI a)) lkX5_letterAt mlX1_45 lmX5_letterAt lpX5_letterAt ⟨Nat.le_of_ble_eq_true rfl, Nat.le_of_ble_eq_true rfl⟩ ⟨Nat.le_of_ble_eq_true rfl, Nat.le_of_ble_eq_true rfl⟩ rfl ⟨_, (t1 51 (by omega)).2.1⟩ (Nat.le_of_ble_eq_true rfl) (dk rfl) ?_
    rintro _ rfl
    rw [t2.lt hga (by omega)]
    refine callNR_ok (av := [vI (gl X1 a)]) (r := []) X E (s6_partsOf h lta) lkX6_partsOf mnX1_111 lsX6_partsOf ⟨Nat.le_of_ble_eq_true rfl, Nat.le_of_ble_eq_true rfl⟩ ⟨Nat.le_of_ble_eq_true rfl, Nat.le_of_ble_eq_true rfl⟩ (Nat.le_of_ble_eq_true rfl) (dk rfl) ?_
    rintro _ rfl
    rw [show pF (gl X1 a) = ga X1 a from rfl]
    have loop : ∀ (u j : Nat), j + u = ga X1 a → (∀ i, i < j → bt mk (k (ko X1 a i))) → ∀ l : List (Nat × Value), lsel l [6, 5, 2, 0] = [(6, vI u), (5, vI (ko X1 a j)), (2, .long (nL mk)), (0, .ref (P 5))] → WR p la e (rmD 2 0 0) s m args below meth c D cA B0 7 (fun v h' => (∃ b : Bool, v = some (.int (bI b)) ∧ (b = true ↔ ∀ a, hd z = some a → ∀ j, j < ga X1 a → bt mk (k (ko X1 a j)))) ∧ h' = h) 35 l [] h 0 0 := by
      intro u
      induction u with
      | zero =>
        intro j hj hall l hl
        have hj2 : j = ga X1 a := by omega
        refine WS.sel [6, 5, 2, 0] hl ?_
        refine fst1_ok X (dk rfl) rfl ?_
        refine br_ok X (dk rfl) rfl (show ((37 : Nat) : Int) + 37 = ((74 : Nat) : Int) from rfl) (fun _ => ?_) (fun q => absurd (show nI 0 ≤ 0 by decide) q)
        refine fst1_ok X (dk rfl) rfl ?_
        exact reti_ok X hr hlk (bI_n true) (dk rfl) (⟨⟨true, rfl, ⟨fun _ a2 ea i hi => by rw [eh] at ea; cases ea; exact hall i (by omega), fun _ => rfl⟩⟩, rfl⟩) (Nat.le_of_ble_eq_true rfl) (Nat.le_of_ble_eq_true rfl)
      | succ u ih =>
        intro j hj hall l hl
        obtain ⟨k1, k2, k3, k4, k5⟩ := ko_mono hX ha (j := j) (by omega)
        refine WS.sel [6, 5, 2, 0] hl ?_
        refine fst1_ok X (dk rfl) rfl ?_
        refine br_ok X (dk rfl) rfl (show ((37 : Nat) : Int) + 37 = ((74 : Nat) : Int) from rfl) (fun q => absurd q (nI_nle (Nat.succ_pos _) (by omega))) (fun _ => ?_)
        iterate 3 refine fst1_ok X (dk rfl) rfl ?_
        refine callVR_ok (ci := 3) (T := TX1) (N := 5) (av := [vI (ko X1 a j)]) (r := [.long (nL mk)]) X E (s1_classAt h T (z := ko X1 a j) (by omega)) lkX1_classAt mlX1_68 lmX1_classAt lpX1_classAt ⟨Nat.le_of_ble_eq_true rfl, Nat.le_of_ble_eq_true rfl⟩ ⟨Nat.le_of_ble_eq_true rfl, Nat.le_of_ble_eq_true rfl⟩ rfl ⟨_, t3⟩ (Nat.le_of_ble_eq_true rfl) (dk rfl) ?_
        rintro _ rfl
        have hkk := hkb (ko X1 a j) (by omega)
        iterate 4 refine fst1_ok X (dk rfl) rfl ?_
        refine lcmp_ok X (dk rfl) ?_
        rw [show (nL mk >>> ((nI (k (ko X1 a j))).toInt64 &&& 63)) &&& Int64.ofNat ((1 : Fin 2) : Nat) = nL (mk >>> k (ko X1 a j) % 2) from lbit hkk]
        by_cases hb : mk >>> k (ko X1 a j) % 2 = 1
        · rw [hb]
          refine br_ok X (dk rfl) rfl (show ((52 : Nat) : Int) + 5 = ((57 : Nat) : Int) from rfl) (fun _ => ?_) (fun q => absurd (by decide) q)
          refine fst1_ok X (dk rfl) rfl ?_
          refine getf_ok X flX1_16 (dk rfl) t3 rfl ?_
          refine fst1_ok X (dk rfl) rfl ?_
          refine callVR_ok (ci := 7) (T := TX5) (N := 3) (av := [vI (ko X1 a j)]) (r := []) X E (s5_endOf h t1 (i := 51) (by omega) t2 (bx_tl hX k5).1) lkX5_endOf mlX1_114 lmX5_endOf lpX5_endOf ⟨Nat.le_of_ble_eq_true rfl, Nat.le_of_ble_eq_true rfl⟩ ⟨Nat.le_of_ble_eq_true rfl, Nat.le_of_ble_eq_true rfl⟩ rfl ⟨_, (t1 51 (by omega)).2.1⟩ (Nat.le_of_ble_eq_true rfl) (dk rfl) ?_
          rintro _ rfl
          iterate 2 refine fst1_ok X (dk rfl) rfl ?_
          refine br_ok X (dk rfl) rfl (show ((71 : Nat) : Int) + (-36) = ((35 : Nat) : Int) from rfl) (fun _ => ?_) (fun q => absurd trivial q)
          refine WS.sel (l' := [(6, vI u), (5, vI (ko X1 a (j + 1))), (2, .long (nL mk)), (0, .ref (P 5))]) [6, 5, 2, 0] (by rw [show vI u = Value.int (nI (u + 1) + Int32.ofInt (-1)) from congrArg Value.int (nI_dec _).symm]; rfl) ?_
          exact ih (j + 1) (by omega) (fun i hi => by
            rcases Nat.lt_or_ge i j with c1 | c1
            · exact hall i c1
            · rw [show i = j by omega]
              exact hb) _ rfl
        · have h0 : mk >>> k (ko X1 a j) % 2 = 0 := by
            have := Nat.mod_two_eq_zero_or_one (mk >>> k (ko X1 a j))
            omega
          rw [h0]
          refine br_ok X (dk rfl) rfl (show ((52 : Nat) : Int) + 5 = ((57 : Nat) : Int) from rfl) (fun q => absurd (by decide) q) (fun _ => ?_)
          refine fst1_ok X (dk rfl) rfl ?_
          exact reti_ok X hr hlk (bI_n false) (dk rfl) (⟨⟨false, rfl, ⟨fun z => (by cases z), fun z => absurd (z a eh j (by omega)) hb⟩⟩, rfl⟩) (Nat.le_of_ble_eq_true rfl) (Nat.le_of_ble_eq_true rfl)
    refine fst1_ok X (dk rfl) rfl ?_
    have k0 : Value.int (nI a + Int32.ofInt 1) = vI (ko X1 a 0) := congrArg Value.int (by rw [nI_1', nI_add]; rfl)
    refine WS.sel (l' := [(6, vI (ga X1 a)), (5, vI (ko X1 a 0)), (2, .long (nL mk)), (0, .ref (P 5))]) [6, 5, 2, 0] (by rw [← k0]; rfl) ?_
    exact loop _ 0 (Nat.zero_add _) (fun i hi => absurd hi (Nat.not_lt_zero i)) _ rfl
/-- the first place at which the same term stands -/
def flF (X : List Nat) (z : Nat) : Nat → Nat → Nat
  | 0, i => i
  | u + 1, i => if sub' X i = sub' X z then i else flF X z u (i + 1)
def flX (X : List Nat) (z : Nat) : Nat := if z < X.length then flF X z z 0 else z
theorem like_bx {X : List Nat} (hX : BX X) {i z : Nat} (hi : i < X.length) (hz : z < X.length) : ((X.drop i).take (tl X i) = (X.drop z).take (tl X i)) ↔ sub' X i = sub' X z := by
  have tw := sub_TW hX hi
  have hl := sub_len hX hi
  have h := TW_take (t := sub' X i) tw (bx_tl hX hz).1
  rw [List.drop_zero, List.take_length, hl] at h
  exact h
set_option maxHeartbeats 4000000 in
theorem s5_isLikeAtX (h : AH) (S : TS B Q h F) {i : Nat} (hi : i < 52) {nz : List Nat} (hN : TN (F i) nz) {p0 u p2 : Nat} (hp : nz.length ≤ p0) (hp2 : p0 < 2 ^ 20) : CT la D cA B0 pa yX5_isLikeAt cX5_isLikeAt 7 (some .boolean) (rmD 1 0 0) [.ref (B i), vI p0, .ref (B u), vI p2] h (RP (.int (bI false)) h) := by
  refine CT_of (by decide +kernel) (Nat.le_of_ble_eq_true rfl) ?_
  intro p e s m args below meth c X E hr hlk hnm
  have dk : ∀ {pc : Nat} {q : Instr × Nat}, lkd DX5_isLikeAt pc = some q → decode cX5_isLikeAt pc = .ok q := lkd_ok DX5_isLikeAt_ok
  obtain ⟨a1, a2, xs, a3, a4, -⟩ := S i hi
  have hg := rmI_ge i
  have hL := rmI_le i
  iterate 5 refine fst1_ok X (dk rfl) rfl ?_
  refine br_ok X (dk rfl) rfl (show ((8 : Nat) : Int) + 63 = ((71 : Nat) : Int) from rfl) (fun q => absurd q (by decide)) (fun _ => ?_)
  iterate 2 refine fst1_ok X (dk rfl) rfl ?_
  refine getf_ok X flX5_15 (dk rfl) a2 rfl ?_
  refine alen7_ok X (dk rfl) a3 a4 ?_
  refine br_ok X (dk rfl) rfl (show ((18 : Nat) : Int) + 53 = ((71 : Nat) : Int) from rfl) (fun q => absurd q (by rw [nI_0']; exact nI_ge (by omega) (by omega))) (fun _ => ?_)
  iterate 4 refine fst1_ok X (dk rfl) rfl ?_
  rw [nI_0', nI_add, Nat.add_zero]
  refine callVR_ok (ci := 7) (T := TX5) (N := 3) (av := [vI p0]) (r := []) X E (s5_letterAt h S hi (nI p0)) lkX5_letterAt mlX5_29 lmX5_letterAt lpX5_letterAt ⟨Nat.le_of_ble_eq_true rfl, Nat.le_of_ble_eq_true rfl⟩ ⟨Nat.le_of_ble_eq_true rfl, Nat.le_of_ble_eq_true rfl⟩ rfl ⟨_, (S i hi).2.1⟩ (Nat.le_of_ble_eq_true rfl) (dk rfl) ?_
  rintro _ rfl
  rw [hN.out hp (by omega)]
  iterate 3 refine fst1_ok X (dk rfl) rfl ?_
  refine br_ok X (dk rfl) rfl (show ((35 : Nat) : Int) + 16 = ((51 : Nat) : Int) from rfl) (fun _ => ?_) (fun q => absurd rfl q)
  refine fst1_ok X (dk rfl) rfl ?_
  exact reti_ok X hr hlk (bI_n false) (dk rfl) (⟨rfl, rfl⟩) (Nat.le_of_ble_eq_true rfl) (Nat.le_of_ble_eq_true rfl)
set_option maxHeartbeats 16000000 in
theorem s5_firstLike (h : AH) (S : TS B Q h F) {ib : Nat} (hib : ib < 52) (hX : BX X1) (hN : TN (F ib) X1) {z : Nat} (hz : z < 2 ^ 10) : CT la D cA B0 pa yX5_firstLike cX5_firstLike 3 (some .int) (rmD 2 0 0) [.ref (B ib), vI z] h (RP (vI (flX X1 z)) h) := by
  refine CT_of (by decide +kernel) (Nat.le_of_ble_eq_true rfl) ?_
  intro p e s m args below meth c X E hr hlk hnm
  have dk : ∀ {pc : Nat} {q : Instr × Nat}, lkd DX5_firstLike pc = some q → decode cX5_firstLike pc = .ok q := lkd_ok DX5_firstLike_ok
  have hX32 := hX.2.2
  have loop : ∀ (u i : Nat), u + i = z → (if z < X1.length then flF X1 z u i else z) = flX X1 z → ∀ l : List (Nat × Value), lsel l [2, 1, 0] = [(2, vI i), (1, vI z), (0, .ref (B ib))] → WR p la e (rmD 2 0 0) s m args below meth c D cA B0 3 (RP (vI (flX X1 z)) h) 2 l [] h 0 0 := by
    intro u
    induction u with
    | zero =>
      intro i hi he l hl
      have hi2 : i = z := by omega
      subst hi2
      have ez : flX X1 i = i := by
        rw [← he]
        split <;> rfl
      refine WS.sel [2, 1, 0] hl ?_
      iterate 2 refine fst1_ok X (dk rfl) rfl ?_
      refine br_ok X (dk rfl) rfl (show ((4 : Nat) : Int) + 21 = ((25 : Nat) : Int) from rfl) (fun _ => ?_) (fun q => absurd (Int32.le_refl _) q)
      refine fst1_ok X (dk rfl) rfl ?_
      exact reti_ok X hr hlk rfl (dk rfl) (⟨by rw [ez]; rfl, rfl⟩) (Nat.le_of_ble_eq_true rfl) (Nat.le_of_ble_eq_true rfl)
    | succ u ih =>
      intro i hi he l hl
      have f3' : Value.int (nI i + Int32.ofInt 1) = vI (i + 1) := congrArg Value.int (by rw [nI_1', nI_add])
      refine WS.sel [2, 1, 0] hl ?_
      iterate 2 refine fst1_ok X (dk rfl) rfl ?_
      refine br_ok X (dk rfl) rfl (show ((4 : Nat) : Int) + 21 = ((25 : Nat) : Int) from rfl) (fun q => absurd q (nI_ge (by omega) (by omega))) (fun _ => ?_)
      iterate 4 refine fst1_ok X (dk rfl) rfl ?_
      rcases Nat.lt_or_ge i X1.length with hil | hil
      · refine callVR_ok (ci := 7) (T := TX5) (N := 3) (av := [vI i, .ref (B ib), vI z]) (r := []) X E (s5_isLikeAt h S hib hN hib hN (p0 := i) (p2 := z) (by omega) (bx_tl hX hil).1) lkX5_isLikeAt mlX5_68 lmX5_isLikeAt lpX5_isLikeAt ⟨Nat.le_of_ble_eq_true rfl, Nat.le_of_ble_eq_true rfl⟩ ⟨Nat.le_of_ble_eq_true rfl, Nat.le_of_ble_eq_true rfl⟩ rfl ⟨_, (S ib hib).2.1⟩ (Nat.le_of_ble_eq_true rfl) (dk rfl) ?_
        rintro _ rfl
        rcases Nat.lt_or_ge z X1.length with hzl | hzl
        · rw [if_pos hzl] at he
          rw [flF] at he
          by_cases hs : sub' X1 i = sub' X1 z
          · rw [if_pos hs] at he
            rw [decide_eq_true ((like_bx hX hil hzl).mpr hs)]
            refine br_ok X (dk rfl) rfl (show ((14 : Nat) : Int) + 5 = ((19 : Nat) : Int) from rfl) (fun q => absurd q bI_t) (fun _ => ?_)
            refine fst1_ok X (dk rfl) rfl ?_
            exact reti_ok X hr hlk rfl (dk rfl) (⟨by rw [← he]; rfl, rfl⟩) (Nat.le_of_ble_eq_true rfl) (Nat.le_of_ble_eq_true rfl)
          · rw [if_neg hs] at he
            rw [decide_eq_false (fun w => hs ((like_bx hX hil hzl).mp w))]
            refine br_ok X (dk rfl) rfl (show ((14 : Nat) : Int) + 5 = ((19 : Nat) : Int) from rfl) (fun _ => ?_) (fun q => absurd bI_f' q)
            refine fst1_ok X (dk rfl) rfl ?_
            refine br_ok X (dk rfl) rfl (show ((22 : Nat) : Int) + (-20) = ((2 : Nat) : Int) from rfl) (fun _ => ?_) (fun q => absurd trivial q)
            refine WS.sel (l' := [(2, vI (i + 1)), (1, vI z), (0, .ref (B ib))]) [2, 1, 0] (by rw [← f3']; rfl) ?_
            exact ih (i + 1) (by omega) (by rw [if_pos hzl]; exact he) _ rfl
        · rw [if_neg (by omega)] at he
          rw [decide_eq_false (fun w => by
            have h1 := (bx_tl hX hil).2
            have h2 := congrArg List.length w
            rw [List.drop_eq_nil_of_le hzl, List.take_nil, List.length_take, List.length_drop, List.length_nil] at h2
            omega)]
          refine br_ok X (dk rfl) rfl (show ((14 : Nat) : Int) + 5 = ((19 : Nat) : Int) from rfl) (fun _ => ?_) (fun q => absurd bI_f' q)
          refine fst1_ok X (dk rfl) rfl ?_
          refine br_ok X (dk rfl) rfl (show ((22 : Nat) : Int) + (-20) = ((2 : Nat) : Int) from rfl) (fun _ => ?_) (fun q => absurd trivial q)
          refine WS.sel (l' := [(2, vI (i + 1)), (1, vI z), (0, .ref (B ib))]) [2, 1, 0] (by rw [← f3']; rfl) ?_
          exact ih (i + 1) (by omega) (by rw [if_neg (by omega)]; exact he) _ rfl
      · rw [if_neg (by omega)] at he
        refine callVR_ok (ci := 7) (T := TX5) (N := 3) (av := [vI i, .ref (B ib), vI z]) (r := []) X E (s5_isLikeAtX h S hib hN (u := ib) (p2 := z) hil (by omega)) lkX5_isLikeAt mlX5_68 lmX5_isLikeAt lpX5_isLikeAt ⟨Nat.le_of_ble_eq_true rfl, Nat.le_of_ble_eq_true rfl⟩ ⟨Nat.le_of_ble_eq_true rfl, Nat.le_of_ble_eq_true rfl⟩ rfl ⟨_, (S ib hib).2.1⟩ (Nat.le_of_ble_eq_true rfl) (dk rfl) ?_
        rintro _ rfl
        refine br_ok X (dk rfl) rfl (show ((14 : Nat) : Int) + 5 = ((19 : Nat) : Int) from rfl) (fun _ => ?_) (fun q => absurd bI_f' q)
        refine fst1_ok X (dk rfl) rfl ?_
        refine br_ok X (dk rfl) rfl (show ((22 : Nat) : Int) + (-20) = ((2 : Nat) : Int) from rfl) (fun _ => ?_) (fun q => absurd trivial q)
        refine WS.sel (l' := [(2, vI (i + 1)), (1, vI z), (0, .ref (B ib))]) [2, 1, 0] (by rw [← f3']; rfl) ?_
        exact ih (i + 1) (by omega) (by rw [if_neg (by omega)]; exact he) _ rfl
  iterate 2 refine fst1_ok X (dk rfl) rfl ?_
  exact loop z 0 (Nat.add_zero _) rfl _ rfl
end S21
