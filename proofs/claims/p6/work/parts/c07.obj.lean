/-! the class, strongly: its object, what the acts have in common (printed by wip/p20/genS6.py) -/
/-- the slots, the answers, the acts done and refused -/
abbrev ST : Type := List (List Nat) × List (List (List Nat)) × Int32 × Int32
def StO (st : ST) : Prop := st.1.length = 6 ∧ (∀ r ∈ st.1, TW r ∧ r.length ≤ 16) ∧ st.2.1.length = 3 ∧ ∀ rows ∈ st.2.1, AO rows
def FS (F : Nat → TC) (st : ST) : Prop := (∀ j, j < 6 → ∃ ns, st.1[j]? = some ns ∧ F j = (ns.map nI, false)) ∧ ∀ k, k < 3 → ∃ rows, st.2.1[k]? = some rows ∧ RWX F (6 + 8 * k) rows
/-- how long the rows of the class's own are -/
def rlI (j : Nat) : Nat := if j = 60 ∨ j = 63 then 8 else if j < 64 then 32 else 128
def ROWS (Q : Nat → Nat) (h : AH) : Prop := ∀ j, 60 ≤ j → j < 70 → ∃ xs : List Int32, h (Q j) = some (107, xs.map Value.int) ∧ xs.length = rlI j
/-- what is written to in between: the pairs, the steps, the classes -/
def SCR (B Q P : Nat → Nat) (h : AH) : Prop := (∃ t e : Int32, h (P 4) = some (6, [.ref (B 50), .ref (Q 60), .ref (P 13), .int t, .int e])) ∧ h (P 5) = some (3, [.ref (B 51), .ref (Q 61), .ref (Q 62), .ref (Q 63), .ref (P 14)]) ∧ h (P 6) = some (5, [.ref (P 15)]) ∧
  (∀ k, k < 3 → ∃ w : Nat, w ≤ 128 ∧ h (P (13 + k)) = some (4, [.ref (Q (64 + 2 * k)), .ref (Q (65 + 2 * k)), vI w])) ∧ ROWS Q h
def OXc (B P : Nat → Nat) (d r kn : Int32) : AC := (8, [.ref (P 0), .ref (P 1), .int d, .int r, .int kn, .ref (B 30), .ref (B 31), .ref (B 32), .ref (B 33), .ref (P 2), .ref (P 3), .ref (P 4), .ref (P 5), .ref (P 6)])
/-- what never changes -/
def CON (B P : Nat → Nat) (h : AH) : Prop := h (P 0) = some (103, (rgB B 0 6).map Value.ref) ∧ h (P 1) = some (104, (rgB P 7 3).map Value.ref) ∧ (∀ k, k < 3 → AnO B h (P (7 + k)) (6 + 8 * k)) ∧ AnO B h (P 2) 34 ∧ AnO B h (P 3) 42
def CLS (B Q P : Nat → Nat) (ox : Nat) (kn : Int32) (h : AH) (F : Nat → TC) (d r : Int32) : Prop := TS B Q h F ∧ h ox = some (OXc B P d r kn) ∧ CON B P h ∧ SCR B Q P h
/-- cells of other kinds than the class's own stay -/
def FrC (h h' : AH) : Prop := ∀ (a : Nat) (c : AC), h a = some c → ck c.1 = false → h' a = some c
theorem FrC.rf (h : AH) : FrC h h := fun _ _ e _ => e
theorem FrC.trans {h1 h2 h3 : AH} (x : FrC h1 h2) (y : FrC h2 h3) : FrC h1 h3 := fun a c e k => y a c (x a c e k) k
theorem FrC.put {h : AH} {a : Nat} {c0 : AC} (e0 : h a = some c0) (k0 : ck c0.1 = true) (c : AC) : FrC h (hup h a c) := fun b d e k => by
  by_cases z : b = a
  · rw [z, e0] at e
    cases e
    rw [k0] at k
    cases k
  · rw [hup_ne _ _ z]
    exact e
theorem ck_78 {c : AC} (h : ck c.1 = false) : c.1 ≠ 7 ∧ c.1 ≠ 107 := ⟨(fun z => by rw [z] at h; cases h), (fun z => by rw [z] at h; cases h)⟩
section CLs
variable {B Q P : Nat → Nat} {ox : Nat} {kn : Int32} {h h' : AH} {F F' : Nat → TC} {d r : Int32}
theorem FrT.frC (S : TS B Q h F) (x : FrT B Q h h') : FrC h h' := fun a c e k => by
  obtain ⟨k1, vs⟩ := c
  exact x.keep S e (ck_78 k).1 (ck_78 k).2
theorem ROWS.keep (Y : LYO B Q) (S : TS B Q h F) (x : FrT B Q h h') (R : ROWS Q h) : ROWS Q h' := fun j h1 h2 => by
  obtain ⟨xs, e1, e2⟩ := R j h1 h2
  refine ⟨xs, ?_, e2⟩
  rw [x (Q j) (fun i hi => ⟨?_, fun z => by have := Y.2 _ _ (by omega) (by omega) z; omega⟩)]
  · exact e1
  · obtain ⟨-, b1, -⟩ := S i hi
    exact k_ne e1 b1 (by decide)
theorem SCR.keep (Y : LYO B Q) (S : TS B Q h F) (x : FrT B Q h h') (R : SCR B Q P h) : SCR B Q P h' := by
  obtain ⟨⟨t, e, r1⟩, r2, r3, r4, r5⟩ := R
  refine ⟨⟨t, e, x.keep S r1 (by decide) (by decide)⟩, x.keep S r2 (by decide) (by decide), x.keep S r3 (by decide) (by decide), fun k hk => ?_, r5.keep Y S x⟩
  obtain ⟨w, w1, w2⟩ := r4 k hk
  exact ⟨w, w1, x.keep S w2 (by decide) (by decide)⟩
theorem CON.keep (S : TS B Q h F) (x : FrT B Q h h') (H : CON B P h) : CON B P h' := by
  obtain ⟨c1, c2, c3, c4, c5⟩ := H
  exact ⟨x.keep S c1 (by decide) (by decide), x.keep S c2 (by decide) (by decide), fun k hk => (c3 k hk).keep S x, c4.keep S x, c5.keep S x⟩
/-- terms changed alone -/
theorem CLS.tm (Y : LYO B Q) (C : CLS B Q P ox kn h F d r) (S' : TS B Q h' F') (x : FrT B Q h h') : CLS B Q P ox kn h' F' d r :=
  ⟨S', x.keep C.1 C.2.1 (by decide) (by decide), C.2.2.1.keep C.1 x, C.2.2.2.keep Y C.1 x⟩
/-- a cell that is none of these is written -/
theorem TS.out (S : TS B Q h F) {a : Nat} {k : Nat} {vs : List Value} (e : h a = some (k, vs)) (h7 : k ≠ 7) (h8 : k ≠ 107) (c : AC) : TS B Q (hup h a c) F := fun i hi => by
  obtain ⟨s1, s2, xs, s3, s4⟩ := S i hi
  exact ⟨s1, by rw [hup_ne _ _ (k_ne s2 e (Ne.symm h7))]; exact s2, xs, by rw [hup_ne _ _ (k_ne s3 e (Ne.symm h8))]; exact s3, s4⟩
theorem AnO.out {o f : Nat} (O : AnO B h o f) {a : Nat} {k : Nat} {vs : List Value} (e : h a = some (k, vs)) (h2 : k ≠ 2) (h3 : k ≠ 103) (c : AC) : AnO B (hup h a c) o f := by
  obtain ⟨o1, arr, o2, o3⟩ := O
  exact ⟨o1, arr, by rw [hup_ne _ _ (k_ne o2 e (Ne.symm h2))]; exact o2, by rw [hup_ne _ _ (k_ne o3 e (Ne.symm h3))]; exact o3⟩
theorem CLS.cnt (C : CLS B Q P ox kn h F d r) (d' r' : Int32) : CLS B Q P ox kn (hup h ox (OXc B P d' r' kn)) F d' r' ∧ FrC h (hup h ox (OXc B P d' r' kn)) := by
  obtain ⟨S, x, ⟨c1, c2, c3, c4, c5⟩, ⟨t, e, r1⟩, r2, r3, r4, r5⟩ := C
  have x' : h ox = some (8, (OXc B P d r kn).2) := x
  have kp : ∀ {b k : Nat} {vs : List Value}, h b = some (k, vs) → k ≠ 8 → hup h ox (OXc B P d' r' kn) b = some (k, vs) := fun {b k vs} eb hk => by rw [hup_ne _ _ (k_ne eb x' hk)]; exact eb
  refine ⟨⟨S.out x' (by decide) (by decide) _, hup_self _ _ _, ⟨kp c1 (by decide), kp c2 (by decide), fun k hk => (c3 k hk).out x' (by decide) (by decide) _, c4.out x' (by decide) (by decide) _, c5.out x' (by decide) (by decide) _⟩, ⟨t, e, kp r1 (by decide)⟩, kp r2 (by decide), kp r3 (by decide), fun k hk => ?_, fun j h1 h2 => ?_⟩, FrC.put x rfl _⟩
  · obtain ⟨w, w1, w2⟩ := r4 k hk
    exact ⟨w, w1, kp w2 (by decide)⟩
  · obtain ⟨xs, e1, e2⟩ := r5 j h1 h2
    exact ⟨xs, kp e1 (by decide), e2⟩
end CLs
def okI (N : Nat) (x : Int32) : Bool := decide (¬ x < 0) && decide (x.toNatClampNeg < N)
theorem okI_t {N j : Nat} (h : j < N) (hN : N ≤ 2 ^ 20) : okI N (nI j) = true := by
  unfold okI
  rw [nI_clamp (by omega), decide_eq_true (nI_pos (by omega)), decide_eq_true h]
  rfl
theorem okI_f {N : Nat} {x : Int32} (h : ¬ inN N x) : okI N x = false := by
  cases e : okI N x with
  | false => rfl
  | true =>
    unfold okI at e
    rw [Bool.and_eq_true, decide_eq_true_eq, decide_eq_true_eq] at e
    obtain ⟨j, hj, rfl⟩ := nI_of e.1
    rw [nI_clamp hj] at e
    exact absurd ⟨j, e.2, rfl⟩ h
theorem TygN (h : AH) : Tyg (fun _ => none) h := fun a φ g => by cases g
theorem upF_fs {F : Nat → TC} {st : ST} (H : FS F st) {i : Nat} (hi : 30 ≤ i) (c : TC) : FS (upF F i c) st := by
  refine ⟨fun j hj => ?_, fun k hk => ?_⟩
  · obtain ⟨ns, h1, h2⟩ := H.1 j hj
    exact ⟨ns, h1, by rw [upF_ne _ _ (by omega)]; exact h2⟩
  · obtain ⟨rows, h1, h2, h3⟩ := H.2 k hk
    exact ⟨rows, h1, h2, fun n hn => by
      obtain ⟨ns, g1, g2, g3⟩ := h3 n hn
      exact ⟨ns, g1, by rw [upF_ne _ _ (by omega)]; exact g2, g3⟩⟩
section S07
variable {la : Launch} {D : va_G} {cA : Nat → ClassId} {B0 pa : Nat} {B Q P : Nat → Nat} {ox : Nat} {kn : Int32} {F : Nat → TC} {d r : Int32}
set_option maxHeartbeats 4000000 in
theorem s6_termOf (h : AH) (hl : la.stackTraces = false) (C : CLS B Q P ox kn h F d r) (x : Int32) : CTX la D cA B0 pa yX6_termOf cX6_termOf 2 (some (.object "Branchmatch$Term")) (rmD 6 1 6) [.ref ox, .int x] h (fun v h' => (∃ j, j < 6 ∧ x = nI j ∧ v = some (.ref (B j))) ∧ h' = h) (fun E h' => E = ioobe ∧ ¬ inN 6 x ∧ h' = h) := by
  refine CTX_of (by decide +kernel) (Nat.le_of_ble_eq_true rfl) ?_
  intro p e s m args below meth c X E hr hlk hnm ht
  have dk : ∀ {pc : Nat} {q : Instr × Nat}, lkd DX6_termOf pc = some q → decode cX6_termOf pc = .ok q := lkd_ok DX6_termOf_ok
  refine fst1_ok X (dk rfl) rfl ?_
  refine br_ok X (dk rfl) rfl (show ((1 : Nat) : Int) + 9 = ((10 : Nat) : Int) from rfl) (fun c1 => ?_) (fun c1 => ?_)
  · exact throwW_ok X E hl ht hlk xwX6_310 (List.mem_of_getElem? (i := 4) rfl) (dk rfl) (dk rfl) (dk rfl) (dk rfl) (dk rfl) ⟨Nat.le_of_ble_eq_true rfl, Nat.le_of_ble_eq_true rfl⟩ ⟨Nat.le_of_ble_eq_true rfl, Nat.le_of_ble_eq_true rfl⟩ ⟨rfl, (fun z => inN_pos z (by decide) c1), rfl⟩
  · iterate 2 refine fst1_ok X (dk rfl) rfl ?_
    refine br_ok X (dk rfl) rfl (show ((7 : Nat) : Int) + 14 = ((21 : Nat) : Int) from rfl) (fun c2 => ?_) (fun c2 => ?_)
    · obtain ⟨j, hj, rfl⟩ := inN_of (N := 6) (by decide) c1 (Int32.not_le.mpr (by rw [show nI 6 = (Int8.ofInt 6).toInt32 by decide +kernel]; exact c2))
      refine fst1_ok X (dk rfl) rfl ?_
      refine getf_ok X flX6_11 (dk rfl) C.2.1 rfl ?_
      refine fst1_ok X (dk rfl) rfl ?_
      refine aldr_ok X (Or.inl rfl) (dk rfl) C.2.2.1.1 (by omega) (rgB_get B 0 (k := j) hj) ?_
      rw [Nat.zero_add]
      refine WRX.ret ?_
      exact reta_ok X hr hlk (Or.inl ⟨_, rfl⟩) (Or.inr ⟨_, rfl⟩) (dk rfl) (⟨⟨j, hj, rfl, rfl⟩, rfl⟩) (Nat.le_of_ble_eq_true rfl) (Nat.le_of_ble_eq_true rfl)
    · exact throwW_ok X E hl ht hlk xwX6_310 (List.mem_of_getElem? (i := 4) rfl) (dk rfl) (dk rfl) (dk rfl) (dk rfl) (dk rfl) ⟨Nat.le_of_ble_eq_true rfl, Nat.le_of_ble_eq_true rfl⟩ ⟨Nat.le_of_ble_eq_true rfl, Nat.le_of_ble_eq_true rfl⟩ ⟨rfl, (fun z => c2 (by rw [← show nI 6 = (Int8.ofInt 6).toInt32 by decide +kernel]; exact inN_lt z (by decide))), rfl⟩
set_option maxHeartbeats 4000000 in
theorem s6_answerOf (h : AH) (hl : la.stackTraces = false) (C : CLS B Q P ox kn h F d r) (x : Int32) : CTX la D cA B0 pa yX6_answerOf cX6_answerOf 2 (some (.object "Branchmatch$Answer")) (rmD 6 1 6) [.ref ox, .int x] h (fun v h' => (∃ j, j < 3 ∧ x = nI j ∧ v = some (.ref (P (7 + j)))) ∧ h' = h) (fun E h' => E = ioobe ∧ ¬ inN 3 x ∧ h' = h) := by
  refine CTX_of (by decide +kernel) (Nat.le_of_ble_eq_true rfl) ?_
  intro p e s m args below meth c X E hr hlk hnm ht
  have dk : ∀ {pc : Nat} {q : Instr × Nat}, lkd DX6_answerOf pc = some q → decode cX6_answerOf pc = .ok q := lkd_ok DX6_answerOf_ok
  refine fst1_ok X (dk rfl) rfl ?_
  refine br_ok X (dk rfl) rfl (show ((1 : Nat) : Int) + 8 = ((9 : Nat) : Int) from rfl) (fun c1 => ?_) (fun c1 => ?_)
  · exact throwW_ok X E hl ht hlk xwX6_310 (List.mem_of_getElem? (i := 5) rfl) (dk rfl) (dk rfl) (dk rfl) (dk rfl) (dk rfl) ⟨Nat.le_of_ble_eq_true rfl, Nat.le_of_ble_eq_true rfl⟩ ⟨Nat.le_of_ble_eq_true rfl, Nat.le_of_ble_eq_true rfl⟩ ⟨rfl, (fun z => inN_pos z (by decide) c1), rfl⟩
  · iterate 2 refine fst1_ok X (dk rfl) rfl ?_
    refine br_ok X (dk rfl) rfl (show ((6 : Nat) : Int) + 14 = ((20 : Nat) : Int) from rfl) (fun c2 => ?_) (fun c2 => ?_)
    · obtain ⟨j, hj, rfl⟩ := inN_of (N := 3) (by decide) c1 (Int32.not_le.mpr (by rw [show nI 3 = Int32.ofInt 3 by decide +kernel]; exact c2))
      refine fst1_ok X (dk rfl) rfl ?_
      refine getf_ok X flX6_17 (dk rfl) C.2.1 rfl ?_
      refine fst1_ok X (dk rfl) rfl ?_
      refine aldr_ok X (Or.inr rfl) (dk rfl) C.2.2.1.2.1 (by omega) (rgB_get P 7 (k := j) hj) ?_
      refine WRX.ret ?_
      exact reta_ok X hr hlk (Or.inl ⟨_, rfl⟩) (Or.inr ⟨_, rfl⟩) (dk rfl) (⟨⟨j, hj, rfl, rfl⟩, rfl⟩) (Nat.le_of_ble_eq_true rfl) (Nat.le_of_ble_eq_true rfl)
    · exact throwW_ok X E hl ht hlk xwX6_310 (List.mem_of_getElem? (i := 5) rfl) (dk rfl) (dk rfl) (dk rfl) (dk rfl) (dk rfl) ⟨Nat.le_of_ble_eq_true rfl, Nat.le_of_ble_eq_true rfl⟩ ⟨Nat.le_of_ble_eq_true rfl, Nat.le_of_ble_eq_true rfl⟩ ⟨rfl, (fun z => c2 (by rw [← show nI 3 = Int32.ofInt 3 by decide +kernel]; exact inN_lt z (by decide))), rfl⟩
set_option maxHeartbeats 4000000 in
theorem s6_needName (h : AH) (hl : la.stackTraces = false) (x : Int32) : CTX la D cA B0 pa yX6_needName cX6_needName 1 none (rmD 6 1 6) [.int x] h (fun v h' => (∃ j, j < 8 ∧ x = nI j ∧ v = none) ∧ h' = h) (fun E h' => E = iae ∧ ¬ inN 8 x ∧ h' = h) := by
  refine CTX_of (by decide +kernel) (Nat.le_of_ble_eq_true rfl) ?_
  intro p e s m args below meth c X E hr hlk hnm ht
  have dk : ∀ {pc : Nat} {q : Instr × Nat}, lkd DX6_needName pc = some q → decode cX6_needName pc = .ok q := lkd_ok DX6_needName_ok
  refine fst1_ok X (dk rfl) rfl ?_
  refine callSR_ok (av := [.int x]) (r := []) X E (c6_isName _ (TygN h) x) lkX6_isName mlX6_137 lsX6_isName ⟨Nat.le_of_ble_eq_true rfl, Nat.le_of_ble_eq_true rfl⟩ ⟨Nat.le_of_ble_eq_true rfl, Nat.le_of_ble_eq_true rfl⟩ (Nat.le_of_ble_eq_true rfl) (dk rfl) ?_
  rintro _ ⟨b1, rfl, hb2, hn3⟩
  refine br_ok X (dk rfl) rfl (show ((4 : Nat) : Int) + 14 = ((18 : Nat) : Int) from rfl) (fun c4 => ?_) (fun c4 => ?_)
  · obtain ⟨j, hj, rfl⟩ := hb2 (bI_nz c4)
    refine WRX.ret ?_
    exact retv_ok X hr hlk (dk rfl) ⟨⟨j, hj, rfl, rfl⟩, rfl⟩ (Nat.le_of_ble_eq_true rfl) (Nat.le_of_ble_eq_true rfl)
  · have c5 : b1 = false := by
      cases b1 with
      | false => rfl
      | true => exact absurd bI_t c4
    exact throwW_ok X E hl ht hlk xwX6_88 (List.mem_of_getElem? (i := 6) rfl) (dk rfl) (dk rfl) (dk rfl) (dk rfl) (dk rfl) ⟨Nat.le_of_ble_eq_true rfl, Nat.le_of_ble_eq_true rfl⟩ ⟨Nat.le_of_ble_eq_true rfl, Nat.le_of_ble_eq_true rfl⟩ ⟨rfl, (hn3 c5), rfl⟩
set_option maxHeartbeats 4000000 in
theorem s6_did (h : AH) (C : CLS B Q P ox kn h F d r) (x : Int32) : CT la D cA B0 pa yX6_did cX6_did 2 (some .int) (rmD 0 0 0) [.ref ox, .int x] h (fun v h' => v = some (.int x) ∧ CLS B Q P ox kn h' F (d + Int32.ofInt 1) (r) ∧ FrC h h') := by
  refine CT_of (by decide +kernel) (Nat.le_of_ble_eq_true rfl) ?_
  intro p e s m args below meth c X E hr hlk hnm
  have dk : ∀ {pc : Nat} {q : Instr × Nat}, lkd DX6_did pc = some q → decode cX6_did pc = .ok q := lkd_ok DX6_did_ok
  iterate 2 refine fst1_ok X (dk rfl) rfl ?_
  refine getf_ok X flX6_241 (dk rfl) C.2.1 rfl ?_
  iterate 2 refine fst1_ok X (dk rfl) rfl ?_
  refine putf_ok X flX6_241 ftX6_2 (Or.inl rfl) rfl rfl (dk rfl) C.2.1 (Nat.le_of_ble_eq_true rfl) ?_
  refine fst1_ok X (dk rfl) rfl ?_
  exact reti_ok X hr hlk rfl (dk rfl) ⟨rfl, C.cnt (d + Int32.ofInt 1) r⟩ (Nat.le_of_ble_eq_true rfl) (Nat.le_of_ble_eq_true rfl)
set_option maxHeartbeats 4000000 in
theorem s6_refuse (h : AH) (C : CLS B Q P ox kn h F d r) : CT la D cA B0 pa yX6_refuse cX6_refuse 1 (some .int) (rmD 0 0 0) [.ref ox] h (fun v h' => v = some (.int (Int8.ofInt (-9)).toInt32) ∧ CLS B Q P ox kn h' F (d) (r + Int32.ofInt 1) ∧ FrC h h') := by
  refine CT_of (by decide +kernel) (Nat.le_of_ble_eq_true rfl) ?_
  intro p e s m args below meth c X E hr hlk hnm
  have dk : ∀ {pc : Nat} {q : Instr × Nat}, lkd DX6_refuse pc = some q → decode cX6_refuse pc = .ok q := lkd_ok DX6_refuse_ok
  iterate 2 refine fst1_ok X (dk rfl) rfl ?_
  refine getf_ok X flX6_245 (dk rfl) C.2.1 rfl ?_
  iterate 2 refine fst1_ok X (dk rfl) rfl ?_
  refine putf_ok X flX6_245 ftX6_3 (Or.inl rfl) rfl rfl (dk rfl) C.2.1 (Nat.le_of_ble_eq_true rfl) ?_
  refine fst1_ok X (dk rfl) rfl ?_
  exact reti_ok X hr hlk rfl (dk rfl) ⟨rfl, C.cnt d (r + Int32.ofInt 1)⟩ (Nat.le_of_ble_eq_true rfl) (Nat.le_of_ble_eq_true rfl)
/-- a term that is given to a slot -/
def gvP (B Q P : Nat → Nat) (ox : Nat) (kn : Int32) (h : AH) (F : Nat → TC) (d r : Int32) (j : Nat) (zs : List Nat) (v : Option Value) (h' : AH) : Prop :=
  FrC h h' ∧ ((16 < zs.length ∧ v = some (.int (Int8.ofInt (-9)).toInt32) ∧ CLS B Q P ox kn h' F d (r + Int32.ofInt 1)) ∨ (zs.length ≤ 16 ∧ v = some (vI zs.length) ∧ CLS B Q P ox kn h' (upF F j (zs.map nI, false)) (d + Int32.ofInt 1) r))
set_option maxHeartbeats 8000000 in
theorem s6_putSpareInto (h : AH) (Y : LYO B Q) (C : CLS B Q P ox kn h F d r) {j : Nat} (hj : j < 6) {zs : List Nat} (hz : F 30 = addR 16 ([], false) (zs.map nI)) : CT la D cA B0 pa yX6_putSpareInto cX6_putSpareInto 2 (some .int) (rmD 3 0 0) [.ref ox, .ref (B j)] h (gvP B Q P ox kn h F d r j zs) := by
  refine CT_of (by decide +kernel) (Nat.le_of_ble_eq_true rfl) ?_
  intro p e s m args below meth c X E hr hlk hnm
  have dk : ∀ {pc : Nat} {q : Instr × Nat}, lkd DX6_putSpareInto pc = some q → decode cX6_putSpareInto pc = .ok q := lkd_ok DX6_putSpareInto_ok
  refine fst1_ok X (dk rfl) rfl ?_
  refine getf_ok X flX6_24 (dk rfl) C.2.1 rfl ?_
  refine callVR_ok (ci := 7) (T := TX5) (N := 3) (av := []) (r := []) X E (s5_isTooLong h C.1 (i := 30) (by omega)) lkX5_isTooLong mlX6_315 lmX5_isTooLong lpX5_isTooLong ⟨Nat.le_of_ble_eq_true rfl, Nat.le_of_ble_eq_true rfl⟩ ⟨Nat.le_of_ble_eq_true rfl, Nat.le_of_ble_eq_true rfl⟩ rfl ⟨_, (C.1 30 (by omega)).2.1⟩ (Nat.le_of_ble_eq_true rfl) (dk rfl) ?_
  rintro _ rfl
  have e0 : F 30 = ((zs.map nI).take 16, decide (16 < zs.length)) := by
    rw [hz, addR_eq _ _ _ (Nat.zero_le _)]
    show (([] ++ zs.map nI).take 16, (false || decide (16 < 0 + (zs.map nI).length))) = _
    rw [List.nil_append, List.length_map, Nat.zero_add, Bool.false_or]
  rw [e0]
  by_cases hlong : 16 < zs.length
  · rw [show bI ((zs.map nI).take 16, decide (16 < zs.length)).2 = bI true by rw [decide_eq_true hlong]]
    refine br_ok X (dk rfl) rfl (show ((7 : Nat) : Int) + 8 = ((15 : Nat) : Int) from rfl) (fun q => absurd q bI_t) (fun _ => ?_)
    refine fst1_ok X (dk rfl) rfl ?_
    refine callV_ok (ci := 8) (T := TX6) (N := 14) (av := []) (r := []) X E (s6_refuse h C) lkX6_refuse mlX6_119 lmX6_refuse lpX6_refuse ⟨Nat.le_of_ble_eq_true rfl, Nat.le_of_ble_eq_true rfl⟩ ⟨Nat.le_of_ble_eq_true rfl, Nat.le_of_ble_eq_true rfl⟩ rfl C.2.1 (Nat.le_of_ble_eq_true rfl) (dk rfl) ?_
    rintro _ h1 ⟨rfl, C1, f1⟩
    exact reti_ok X hr hlk rfl (dk rfl) ⟨f1, Or.inl ⟨hlong, rfl, C1⟩⟩ (Nat.le_of_ble_eq_true rfl) (Nat.le_of_ble_eq_true rfl)
  · rw [show bI ((zs.map nI).take 16, decide (16 < zs.length)).2 = bI false by rw [decide_eq_false hlong]]
    refine br_ok X (dk rfl) rfl (show ((7 : Nat) : Int) + 8 = ((15 : Nat) : Int) from rfl) (fun _ => ?_) (fun q => absurd bI_f' q)
    have e1 : F 30 = (zs.map nI, false) := by rw [e0, List.take_of_length_le (by rw [List.length_map]; omega), decide_eq_false hlong]
    iterate 2 refine fst1_ok X (dk rfl) rfl ?_
    refine getf_ok X flX6_24 (dk rfl) C.2.1 rfl ?_
    have hrm : rmI j = 16 := if_pos (by omega)
    refine callVT_ok (ci := 7) (T := TX5) (N := 3) (av := [.ref (B 30)]) (r := []) X E (s5_becomeAs h Y C.1 (i := j) (by omega) (j := 30) (by omega) (by rw [e1, hrm, List.length_map]; omega)) lkX5_becomeAs mlX6_108 lmX5_becomeAs lpX5_becomeAs ⟨Nat.le_of_ble_eq_true rfl, Nat.le_of_ble_eq_true rfl⟩ ⟨Nat.le_of_ble_eq_true rfl, Nat.le_of_ble_eq_true rfl⟩ rfl (C.1 j (by omega)).2.1 (Nat.le_of_ble_eq_true rfl) (dk rfl) (fun h1 S1 f1 => ?_)
    rw [e1] at S1
    have C1 := C.tm Y S1 f1
    iterate 2 refine fst1_ok X (dk rfl) rfl ?_
    refine callVR_ok (ci := 7) (T := TX5) (N := 3) (av := []) (r := [.ref ox]) X E (s5_length h1 S1 (i := j) (by omega)) lkX5_length mlX6_76 lmX5_length lpX5_length ⟨Nat.le_of_ble_eq_true rfl, Nat.le_of_ble_eq_true rfl⟩ ⟨Nat.le_of_ble_eq_true rfl, Nat.le_of_ble_eq_true rfl⟩ rfl ⟨_, (S1 j (by omega)).2.1⟩ (Nat.le_of_ble_eq_true rfl) (dk rfl) ?_
    rintro _ rfl
    rw [upF_self]
    refine callV_ok (ci := 8) (T := TX6) (N := 14) (av := [vI (zs.map nI).length]) (r := []) X E (s6_did h1 C1 _) lkX6_did mlX6_80 lmX6_did lpX6_did ⟨Nat.le_of_ble_eq_true rfl, Nat.le_of_ble_eq_true rfl⟩ ⟨Nat.le_of_ble_eq_true rfl, Nat.le_of_ble_eq_true rfl⟩ rfl C1.2.1 (Nat.le_of_ble_eq_true rfl) (dk rfl) ?_
    rintro _ h2 ⟨rfl, C2, f2⟩
    exact reti_ok X hr hlk rfl (dk rfl) ⟨(f1.frC C.1).trans f2, Or.inr ⟨by omega, by rw [List.length_map]; rfl, C2⟩⟩ (Nat.le_of_ble_eq_true rfl) (Nat.le_of_ble_eq_true rfl)
end S07
