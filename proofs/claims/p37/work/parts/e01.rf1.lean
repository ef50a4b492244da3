/-! the reference, exactly: guards, counters, give, become (from parts 37 and 38; printed by wip/p20/genE1.py) -/
section M37
variable {la : Launch} {D : va_G} {cA : Nat → ClassId} {B0 pa : Nat}
theorem RF.c_isSlot (h : AH) (x : Int32) : CT la D cA B0 pa yX10_isSlot cX10_isSlot 1 (some .boolean) (rmD 0 0 0) [.int x] h (fun v h' => (∃ b : Bool, v = some (.int (bI b)) ∧ (b = true → inN 6 x) ∧ (b = false → ¬ inN 6 x)) ∧ h' = h) := by
  refine CT_of (by decide +kernel) (Nat.le_of_ble_eq_true rfl) ?_
  intro p e s m args below meth c X E hr hlk hnm
  have dk : ∀ {pc : Nat} {q : Instr × Nat}, lkd DX10_isSlot pc = some q → decode cX10_isSlot pc = .ok q := lkd_ok DX10_isSlot_ok
  have no' : ¬ inN 6 x → ∀ (l : List (Nat × Value)), WR p la e (rmD 0 0 0) s m args below meth c D cA B0 1 (fun v h' => (∃ b : Bool, v = some (.int (bI b)) ∧ (b = true → inN 6 x) ∧ (b = false → ¬ inN 6 x)) ∧ h' = h) 14 l [] h 0 0 := by
    intro hx l
    refine fst1_ok (l' := l) (st' := [.int (bI false)]) X (dk rfl) rfl ?_
    exact reti_ok X hr hlk (bI_n _) (dk rfl) ⟨⟨false, rfl, (fun z => by cases z), fun _ => hx⟩, rfl⟩ (Nat.le_refl _) (Nat.le_refl _)
  repeat refine fst1_ok X (dk rfl) rfl ?_
  refine br_ok X (dk rfl) rfl (show ((1 : Nat) : Int) + 13 = ((14 : Nat) : Int) from rfl) (fun c0 => no' (fun z => inN_pos z (by decide) c0) _) (fun c1 => ?_)
  repeat refine fst1_ok X (dk rfl) rfl ?_
  refine br_ok X (dk rfl) rfl (show ((7 : Nat) : Int) + 7 = ((14 : Nat) : Int) from rfl) (fun c0 => no' (fun z => Int32.not_le.mpr (inN_lt z (by decide)) (by rw [show nI 6 = (Int8.ofInt 6).toInt32 by decide +kernel]; exact c0)) _) (fun c2 => ?_)
  repeat refine fst1_ok X (dk rfl) rfl ?_
  refine br_ok X (dk rfl) rfl (show ((11 : Nat) : Int) + 4 = ((15 : Nat) : Int) from rfl) (fun _ => ?_) (fun q => absurd trivial q)
  exact reti_ok X hr hlk (bI_n true) (dk rfl) ⟨⟨true, rfl, (fun _ => inN_of (by omega) c1 (by rw [show nI 6 = (Int8.ofInt 6).toInt32 by decide +kernel]; exact c2)), fun z => by cases z⟩, rfl⟩ (Nat.le_refl _) (Nat.le_refl _)
theorem RF.c_isName (h : AH) (x : Int32) : CT la D cA B0 pa yX10_isName cX10_isName 1 (some .boolean) (rmD 0 0 0) [.int x] h (fun v h' => (∃ b : Bool, v = some (.int (bI b)) ∧ (b = true → inN 8 x) ∧ (b = false → ¬ inN 8 x)) ∧ h' = h) := by
  refine CT_of (by decide +kernel) (Nat.le_of_ble_eq_true rfl) ?_
  intro p e s m args below meth c X E hr hlk hnm
  have dk : ∀ {pc : Nat} {q : Instr × Nat}, lkd DX10_isName pc = some q → decode cX10_isName pc = .ok q := lkd_ok DX10_isName_ok
  have no' : ¬ inN 8 x → ∀ (l : List (Nat × Value)), WR p la e (rmD 0 0 0) s m args below meth c D cA B0 1 (fun v h' => (∃ b : Bool, v = some (.int (bI b)) ∧ (b = true → inN 8 x) ∧ (b = false → ¬ inN 8 x)) ∧ h' = h) 14 l [] h 0 0 := by
    intro hx l
    refine fst1_ok (l' := l) (st' := [.int (bI false)]) X (dk rfl) rfl ?_
    exact reti_ok X hr hlk (bI_n _) (dk rfl) ⟨⟨false, rfl, (fun z => by cases z), fun _ => hx⟩, rfl⟩ (Nat.le_refl _) (Nat.le_refl _)
  repeat refine fst1_ok X (dk rfl) rfl ?_
  refine br_ok X (dk rfl) rfl (show ((1 : Nat) : Int) + 13 = ((14 : Nat) : Int) from rfl) (fun c0 => no' (fun z => inN_pos z (by decide) c0) _) (fun c1 => ?_)
  repeat refine fst1_ok X (dk rfl) rfl ?_
  refine br_ok X (dk rfl) rfl (show ((7 : Nat) : Int) + 7 = ((14 : Nat) : Int) from rfl) (fun c0 => no' (fun z => Int32.not_le.mpr (inN_lt z (by decide)) (by rw [show nI 8 = (Int8.ofInt 8).toInt32 by decide +kernel]; exact c0)) _) (fun c2 => ?_)
  repeat refine fst1_ok X (dk rfl) rfl ?_
  refine br_ok X (dk rfl) rfl (show ((11 : Nat) : Int) + 4 = ((15 : Nat) : Int) from rfl) (fun _ => ?_) (fun q => absurd trivial q)
  exact reti_ok X hr hlk (bI_n true) (dk rfl) ⟨⟨true, rfl, (fun _ => inN_of (by omega) c1 (by rw [show nI 8 = (Int8.ofInt 8).toInt32 by decide +kernel]; exact c2)), fun z => by cases z⟩, rfl⟩ (Nat.le_refl _) (Nat.le_refl _)
theorem RF.c_isAnswer (h : AH) (x : Int32) : CT la D cA B0 pa yX10_isAnswer cX10_isAnswer 1 (some .boolean) (rmD 0 0 0) [.int x] h (fun v h' => (∃ b : Bool, v = some (.int (bI b)) ∧ (b = true → inN 3 x) ∧ (b = false → ¬ inN 3 x)) ∧ h' = h) := by
  refine CT_of (by decide +kernel) (Nat.le_of_ble_eq_true rfl) ?_
  intro p e s m args below meth c X E hr hlk hnm
  have dk : ∀ {pc : Nat} {q : Instr × Nat}, lkd DX10_isAnswer pc = some q → decode cX10_isAnswer pc = .ok q := lkd_ok DX10_isAnswer_ok
  have no' : ¬ inN 3 x → ∀ (l : List (Nat × Value)), WR p la e (rmD 0 0 0) s m args below meth c D cA B0 1 (fun v h' => (∃ b : Bool, v = some (.int (bI b)) ∧ (b = true → inN 3 x) ∧ (b = false → ¬ inN 3 x)) ∧ h' = h) 13 l [] h 0 0 := by
    intro hx l
    refine fst1_ok (l' := l) (st' := [.int (bI false)]) X (dk rfl) rfl ?_
    exact reti_ok X hr hlk (bI_n _) (dk rfl) ⟨⟨false, rfl, (fun z => by cases z), fun _ => hx⟩, rfl⟩ (Nat.le_refl _) (Nat.le_refl _)
  repeat refine fst1_ok X (dk rfl) rfl ?_
  refine br_ok X (dk rfl) rfl (show ((1 : Nat) : Int) + 12 = ((13 : Nat) : Int) from rfl) (fun c0 => no' (fun z => inN_pos z (by decide) c0) _) (fun c1 => ?_)
  repeat refine fst1_ok X (dk rfl) rfl ?_
  refine br_ok X (dk rfl) rfl (show ((6 : Nat) : Int) + 7 = ((13 : Nat) : Int) from rfl) (fun c0 => no' (fun z => Int32.not_le.mpr (inN_lt z (by decide)) (by rw [show nI 3 = Int32.ofInt 3 by decide +kernel]; exact c0)) _) (fun c2 => ?_)
  repeat refine fst1_ok X (dk rfl) rfl ?_
  refine br_ok X (dk rfl) rfl (show ((10 : Nat) : Int) + 4 = ((14 : Nat) : Int) from rfl) (fun _ => ?_) (fun q => absurd trivial q)
  exact reti_ok X hr hlk (bI_n true) (dk rfl) ⟨⟨true, rfl, (fun _ => inN_of (by omega) c1 (by rw [show nI 3 = Int32.ofInt 3 by decide +kernel]; exact c2)), fun z => by cases z⟩, rfl⟩ (Nat.le_refl _) (Nat.le_refl _)
variable {o S A : Nat} {sl : List (List Nat)} {an : List (List (List Nat))} {a r kn th : Int32}
def RF.thI (b1 b2 : Bool) : Nat := if b1 = true then 1 else if b2 = true then 2 else 0
def RF.MC (o S A : Nat) (sl : List (List Nat)) (an : List (List (List Nat))) (a r kn th : Int32) (h h' : AH) : Prop := MD h' o S A sl an a r kn th ∧ Fr o S A h h'
theorem RF.c_isThrown (h : AH) (M : MD h o S A sl an a r kn th) (b1 b2 : Bool) : CT la D cA B0 pa yX10_isThrown cX10_isThrown 3 (some .boolean) (rmD 0 0 0) [.ref o, .int (bI b1), .int (bI b2)] h (fun v h' => v = some (.int (bI (b1 || b2))) ∧ MC o S A sl an a r kn (nI (thI b1 b2)) h h') := by
  refine CT_of (by decide +kernel) (Nat.le_of_ble_eq_true rfl) ?_
  intro p e s m args below meth c X E hr hlk hnm
  have dk : ∀ {pc : Nat} {q : Instr × Nat}, lkd DX10_isThrown pc = some q → decode cX10_isThrown pc = .ok q := lkd_ok DX10_isThrown_ok
  have fin' : ∀ (t : Int32) (l : List (Nat × Value)), lsel l [0] = [(0, .ref o)] → t = nI (thI b1 b2) → (t = 0 ∧ (b1 || b2) = false ∨ ¬ t ≤ 0 ∧ (b1 || b2) = true) → WR p la e (rmD 0 0 0) s m args below meth c D cA B0 3 (fun v h' => v = some (.int (bI (b1 || b2))) ∧ MC o S A sl an a r kn (nI (thI b1 b2)) h h') 18 l [.int t, .ref o] h 0 0 := by
    intro t l hl et ht
    refine WS.sel [0] hl ?_
    refine putf_ok X flX10_28 ftX10_5 (Or.inl rfl) rfl rfl (dk rfl) M.obj (Nat.le_of_ble_eq_true rfl) ?_
    repeat refine fst1_ok X (dk rfl) rfl ?_
    refine getf_ok X flX10_28 (dk rfl) (hup_self _ _ _) rfl ?_
    have hM : MC o S A sl an a r kn (nI (thI b1 b2)) h (hup h o (12, [.ref S, .ref A, .int a, .int r, .int kn, .int t])) := ⟨by rw [← et]; exact M.fld a r kn t, (Fr.rf h).set (Or.inl rfl) _⟩
    rcases ht with ⟨rfl, hb⟩ | ⟨h1, hb⟩
    · rw [hb]
      refine br_ok X (dk rfl) rfl (show ((25 : Nat) : Int) + 7 = ((32 : Nat) : Int) from rfl) (fun _ => ?_) (fun q => absurd (by decide) q)
      repeat refine fst1_ok X (dk rfl) rfl ?_
      exact reti_ok X hr hlk (bI_n false) (dk rfl) ⟨rfl, hM⟩ (Nat.le_refl _) (Nat.le_refl _)
    · rw [hb]
      refine br_ok X (dk rfl) rfl (show ((25 : Nat) : Int) + 7 = ((32 : Nat) : Int) from rfl) (fun q => absurd q h1) (fun _ => ?_)
      repeat refine fst1_ok X (dk rfl) rfl ?_
      refine br_ok X (dk rfl) rfl (show ((29 : Nat) : Int) + 4 = ((33 : Nat) : Int) from rfl) (fun _ => ?_) (fun q => absurd trivial q)
      exact reti_ok X hr hlk (bI_n true) (dk rfl) ⟨rfl, hM⟩ (Nat.le_refl _) (Nat.le_refl _)
  repeat refine fst1_ok X (dk rfl) rfl ?_
  cases b1 with
  | true =>
    refine br_ok X (dk rfl) rfl (show ((2 : Nat) : Int) + 7 = ((9 : Nat) : Int) from rfl) (fun q => absurd q bI_t) (fun _ => ?_)
    repeat refine fst1_ok X (dk rfl) rfl ?_
    refine br_ok X (dk rfl) rfl (show ((6 : Nat) : Int) + 12 = ((18 : Nat) : Int) from rfl) (fun _ => ?_) (fun q => absurd trivial q)
    exact fin' _ _ rfl rfl (Or.inr ⟨by decide, rfl⟩)
  | false =>
    refine br_ok X (dk rfl) rfl (show ((2 : Nat) : Int) + 7 = ((9 : Nat) : Int) from rfl) (fun _ => ?_) (fun q => absurd bI_f' q)
    repeat refine fst1_ok X (dk rfl) rfl ?_
    cases b2 with
    | true =>
      refine br_ok X (dk rfl) rfl (show ((10 : Nat) : Int) + 7 = ((17 : Nat) : Int) from rfl) (fun q => absurd q bI_t) (fun _ => ?_)
      repeat refine fst1_ok X (dk rfl) rfl ?_
      refine br_ok X (dk rfl) rfl (show ((14 : Nat) : Int) + 4 = ((18 : Nat) : Int) from rfl) (fun _ => ?_) (fun q => absurd trivial q)
      exact fin' _ _ rfl rfl (Or.inr ⟨by decide, rfl⟩)
    | false =>
      refine br_ok X (dk rfl) rfl (show ((10 : Nat) : Int) + 7 = ((17 : Nat) : Int) from rfl) (fun _ => ?_) (fun q => absurd bI_f' q)
      refine fst1_ok X (dk rfl) rfl ?_
      exact fin' _ _ rfl rfl (Or.inl ⟨by decide, rfl⟩)
theorem RF.c_isThrown_ (h : AH) (M : MD h o S A sl an a r kn th) (b1 : Bool) : CT la D cA B0 pa yX10_isThrown_ cX10_isThrown_ 2 (some .boolean) (rmD 1 0 0) [.ref o, .int (bI b1)] h (fun v h' => v = some (.int (bI b1)) ∧ MC o S A sl an a r kn (nI (thI b1 false)) h h') := by
  refine CT_of (by decide +kernel) (Nat.le_of_ble_eq_true rfl) ?_
  intro p e s m args below meth c X E hr hlk hnm
  have dk : ∀ {pc : Nat} {q : Instr × Nat}, lkd DX10_isThrown_ pc = some q → decode cX10_isThrown_ pc = .ok q := lkd_ok DX10_isThrown__ok
  repeat refine fst1_ok X (dk rfl) rfl ?_
  refine callV_ok (ci := 12) (T := TX10) (N := 6) (av := [.int (bI b1), .int (bI false)]) (r := []) X E (c_isThrown h M b1 false) lkX10_isThrown mlX10_78 lmX10_isThrown lpX10_isThrown ⟨Nat.le_of_ble_eq_true rfl, Nat.le_of_ble_eq_true rfl⟩ ⟨Nat.le_of_ble_eq_true rfl, Nat.le_of_ble_eq_true rfl⟩ rfl M.obj (Nat.le_of_ble_eq_true rfl) (dk rfl) ?_
  rintro v h' ⟨rfl, hM⟩
  rw [Bool.or_false]
  exact reti_ok X hr hlk (bI_n b1) (dk rfl) ⟨rfl, hM⟩ (Nat.le_refl _) (Nat.le_refl _)
theorem RF.c_done (h : AH) (M : MD h o S A sl an a r kn th) (x : Int32) : CT la D cA B0 pa yX10_done cX10_done 2 (some .int) (rmD 0 0 0) [.ref o, .int x] h (fun v h' => v = some (.int x) ∧ MC o S A sl an (a + Int32.ofInt 1) r kn th h h') := by
  refine CT_of (by decide +kernel) (Nat.le_of_ble_eq_true rfl) ?_
  intro p e s m args below meth c X E hr hlk hnm
  have dk : ∀ {pc : Nat} {q : Instr × Nat}, lkd DX10_done pc = some q → decode cX10_done pc = .ok q := lkd_ok DX10_done_ok
  repeat refine fst1_ok X (dk rfl) rfl ?_
  refine getf_ok X flX10_82 (dk rfl) M.obj rfl ?_
  repeat refine fst1_ok X (dk rfl) rfl ?_
  refine putf_ok X flX10_82 ftX10_2 (Or.inl rfl) rfl rfl (dk rfl) M.obj (Nat.le_of_ble_eq_true rfl) ?_
  repeat refine fst1_ok X (dk rfl) rfl ?_
  exact reti_ok X hr hlk rfl (dk rfl) ⟨rfl, M.fld _ r kn th, (Fr.rf h).set (Or.inl rfl) _⟩ (Nat.le_refl _) (Nat.le_refl _)
theorem RF.c_no (h : AH) (M : MD h o S A sl an a r kn th) : CT la D cA B0 pa yX10_no cX10_no 1 (some .int) (rmD 0 0 0) [.ref o] h (fun v h' => v = some (.int (Int8.ofInt (-9)).toInt32) ∧ MC o S A sl an a (r + Int32.ofInt 1) kn th h h') := by
  refine CT_of (by decide +kernel) (Nat.le_of_ble_eq_true rfl) ?_
  intro p e s m args below meth c X E hr hlk hnm
  have dk : ∀ {pc : Nat} {q : Instr × Nat}, lkd DX10_no pc = some q → decode cX10_no pc = .ok q := lkd_ok DX10_no_ok
  repeat refine fst1_ok X (dk rfl) rfl ?_
  refine getf_ok X flX10_85 (dk rfl) M.obj rfl ?_
  repeat refine fst1_ok X (dk rfl) rfl ?_
  refine putf_ok X flX10_85 ftX10_3 (Or.inl rfl) rfl rfl (dk rfl) M.obj (Nat.le_of_ble_eq_true rfl) ?_
  repeat refine fst1_ok X (dk rfl) rfl ?_
  exact reti_ok X hr hlk rfl (dk rfl) ⟨rfl, M.fld a _ kn th, (Fr.rf h).set (Or.inl rfl) _⟩ (Nat.le_refl _) (Nat.le_refl _)
end M37
section M38
variable {p : Program} {la : Launch} {e : Env} {R : Room} {s : State} {m : MethodId} {args : Array Value} {below : List Frame} {meth : Method} {c : Code} {Q : State → Prop}
variable {D : va_G} {cA : Nat → ClassId} {B0 pa nL : Nat} {cc : ByteArray} {own : String} {pc k n : Nat} {l : List (Nat × Value)} {r : List Value} {h : AH}
theorem RF.isSlot_ok (X : CX p s m args c D cA B0 nL cc own) (E : EN D cA B0 pa s) {idx : Nat} {x : Int32} (hl : Cond.methodLink own idx yX10_isSlot ∈ WT) (hR : 1 ≤ R.frames ∧ 20 ≤ R.locals) (hf : k ≤ R.cells ∧ n ≤ R.slots) (hW : (r.map fun v => v.category).sum ≤ 8) (hd : decode cc pc = .ok (.invokestatic idx, 3))
    (kk : ∀ b : Bool, (b = true → inN 6 x) → (b = false → ¬ inN 6 x) → WS p la e R s m args below meth c Q D cA B0 nL (pc + 3) l (.int (bI b) :: r) h k n) : WS p la e R s m args below meth c Q D cA B0 nL pc l (.int x :: r) h k n := by
  refine callS_ok (av := [.int x]) (r := r) X E (c_isSlot h x) lkX10_isSlot hl lsX10_isSlot hR hf hW hd ?_
  rintro v h' ⟨⟨b, rfl, hb, hn⟩, rfl⟩
  exact kk b hb hn
theorem RF.isName_ok (X : CX p s m args c D cA B0 nL cc own) (E : EN D cA B0 pa s) {idx : Nat} {x : Int32} (hl : Cond.methodLink own idx yX10_isName ∈ WT) (hR : 1 ≤ R.frames ∧ 20 ≤ R.locals) (hf : k ≤ R.cells ∧ n ≤ R.slots) (hW : (r.map fun v => v.category).sum ≤ 8) (hd : decode cc pc = .ok (.invokestatic idx, 3))
    (kk : ∀ b : Bool, (b = true → inN 8 x) → (b = false → ¬ inN 8 x) → WS p la e R s m args below meth c Q D cA B0 nL (pc + 3) l (.int (bI b) :: r) h k n) : WS p la e R s m args below meth c Q D cA B0 nL pc l (.int x :: r) h k n := by
  refine callS_ok (av := [.int x]) (r := r) X E (c_isName h x) lkX10_isName hl lsX10_isName hR hf hW hd ?_
  rintro v h' ⟨⟨b, rfl, hb, hn⟩, rfl⟩
  exact kk b hb hn
theorem RF.isAnswer_ok (X : CX p s m args c D cA B0 nL cc own) (E : EN D cA B0 pa s) {idx : Nat} {x : Int32} (hl : Cond.methodLink own idx yX10_isAnswer ∈ WT) (hR : 1 ≤ R.frames ∧ 20 ≤ R.locals) (hf : k ≤ R.cells ∧ n ≤ R.slots) (hW : (r.map fun v => v.category).sum ≤ 8) (hd : decode cc pc = .ok (.invokestatic idx, 3))
    (kk : ∀ b : Bool, (b = true → inN 3 x) → (b = false → ¬ inN 3 x) → WS p la e R s m args below meth c Q D cA B0 nL (pc + 3) l (.int (bI b) :: r) h k n) : WS p la e R s m args below meth c Q D cA B0 nL pc l (.int x :: r) h k n := by
  refine callS_ok (av := [.int x]) (r := r) X E (c_isAnswer h x) lkX10_isAnswer hl lsX10_isAnswer hR hf hW hd ?_
  rintro v h' ⟨⟨b, rfl, hb, hn⟩, rfl⟩
  exact kk b hb hn
variable {o S A : Nat} {sl : List (List Nat)} {an : List (List (List Nat))} {a r' kn th : Int32}
/-- what an act of the reference leaves, exactly; what a question leaves -/
def RF.refR (o S A : Nat) (kn : Int32) (res : RS) (h : AH) (v : Option Value) (h' : AH) : Prop := v = some (.int (if res.1.1 = 0 then res.1.2 else 0)) ∧ MD h' o S A res.2.1 res.2.2.1 res.2.2.2.1 res.2.2.2.2 kn (nI res.1.1) ∧ Fr o S A h h'
theorem RF.refR_ok {res : RS} {t : Nat} {x : Int32} {sl2 : List (List Nat)} {an2 : List (List (List Nat))} {a2 r2 : Int32} {h h' : AH} (M : MD h' o S A sl2 an2 a2 r2 kn (nI t)) (F : Fr o S A h h') (e : res = ((t, x), (sl2, an2, a2, r2))) : refR o S A kn res h (some (.int (if t = 0 then x else 0))) h' := by
  subst e
  exact ⟨rfl, M, F⟩
def RF.MI (o S A : Nat) (sl : List (List Nat)) (an : List (List (List Nat))) (a r kn : Int32) (h h' : AH) : Prop := (∃ th, MD h' o S A sl an a r kn th) ∧ Fr o S A h h'
def RF.intR (o S A : Nat) (sl : List (List Nat)) (an : List (List (List Nat))) (a r kn : Int32) (h : AH) (v : Option Value) (h' : AH) : Prop := (∃ x : Int32, v = some (.int x)) ∧ MI o S A sl an a r kn h h'
def RF.booR (o S A : Nat) (sl : List (List Nat)) (an : List (List (List Nat))) (a r kn : Int32) (h : AH) (v : Option Value) (h' : AH) : Prop := (∃ b : Bool, v = some (.int (bI b))) ∧ MI o S A sl an a r kn h h'
theorem RF.MD.mi (M : MD h o S A sl an a r' kn th) : MI o S A sl an a r' kn h h := ⟨⟨_, M⟩, Fr.rf h⟩
theorem RF.MI.trans {h1 h2 : AH} (F : Fr o S A h h1) (M : MI o S A sl an a r' kn h1 h2) : MI o S A sl an a r' kn h h2 := ⟨M.1, F.trans M.2⟩
theorem RF.thr1_ok (X : CX p s m args c D cA B0 nL cc RX10) (E : EN D cA B0 pa s) (M : MD h o S A sl an a r' kn th) {b : Bool} (hR : 2 ≤ R.frames ∧ 61 ≤ R.locals) (hf : k ≤ R.cells ∧ n ≤ R.slots) (hW : (r.map fun v => v.category).sum ≤ 8) (hd : decode cc pc = .ok (.invokevirtual 110, 3))
    (kk : ∀ (h' : AH), MD h' o S A sl an a r' kn (nI (thI b false)) → Fr o S A h h' → WS p la e R s m args below meth c Q D cA B0 nL (pc + 3) l (.int (bI b) :: r) h' k n) : WS p la e R s m args below meth c Q D cA B0 nL pc l (.int (bI b) :: .ref o :: r) h k n := by
  refine callV_ok (ci := 12) (T := TX10) (N := 6) (av := [.int (bI b)]) (r := r) X E (c_isThrown_ h M b) lkX10_isThrown_ mlX10_110 lmX10_isThrown_ lpX10_isThrown_ hR hf rfl M.obj hW hd ?_
  rintro v h' ⟨rfl, M', F⟩
  exact kk h' M' F
theorem RF.thr2_ok (X : CX p s m args c D cA B0 nL cc RX10) (E : EN D cA B0 pa s) (M : MD h o S A sl an a r' kn th) {b1 b2 : Bool} (hR : 1 ≤ R.frames ∧ 22 ≤ R.locals) (hf : k ≤ R.cells ∧ n ≤ R.slots) (hW : (r.map fun v => v.category).sum ≤ 8) (hd : decode cc pc = .ok (.invokevirtual 78, 3))
    (kk : ∀ (h' : AH), MD h' o S A sl an a r' kn (nI (thI b1 b2)) → Fr o S A h h' → WS p la e R s m args below meth c Q D cA B0 nL (pc + 3) l (.int (bI (b1 || b2)) :: r) h' k n) : WS p la e R s m args below meth c Q D cA B0 nL pc l (.int (bI b2) :: .int (bI b1) :: .ref o :: r) h k n := by
  refine callV_ok (ci := 12) (T := TX10) (N := 6) (av := [.int (bI b1), .int (bI b2)]) (r := r) X E (c_isThrown h M b1 b2) lkX10_isThrown mlX10_78 lmX10_isThrown lpX10_isThrown hR hf rfl M.obj hW hd ?_
  rintro v h' ⟨rfl, M', F⟩
  exact kk h' M' F
theorem RF.done_ok (X : CX p s m args c D cA B0 nL cc RX10) (E : EN D cA B0 pa s) (M : MD h o S A sl an a r' kn th) {x : Int32} (hR : 1 ≤ R.frames ∧ 21 ≤ R.locals) (hf : k ≤ R.cells ∧ n ≤ R.slots) (hW : (r.map fun v => v.category).sum ≤ 8) (hd : decode cc pc = .ok (.invokevirtual 92, 3))
    (kk : ∀ (h' : AH), MD h' o S A sl an (a + Int32.ofInt 1) r' kn th → Fr o S A h h' → WS p la e R s m args below meth c Q D cA B0 nL (pc + 3) l (.int x :: r) h' k n) : WS p la e R s m args below meth c Q D cA B0 nL pc l (.int x :: .ref o :: r) h k n := by
  refine callV_ok (ci := 12) (T := TX10) (N := 6) (av := [.int x]) (r := r) X E (c_done h M x) lkX10_done mlX10_92 lmX10_done lpX10_done hR hf rfl M.obj hW hd ?_
  rintro v h' ⟨rfl, M', F⟩
  exact kk h' M' F
theorem RF.no_ok (X : CX p s m args c D cA B0 nL cc RX10) (E : EN D cA B0 pa s) (M : MD h o S A sl an a r' kn th) (hR : 1 ≤ R.frames ∧ 20 ≤ R.locals) (hf : k ≤ R.cells ∧ n ≤ R.slots) (hW : (r.map fun v => v.category).sum ≤ 8) (hd : decode cc pc = .ok (.invokevirtual 88, 3))
    (kk : ∀ (h' : AH), MD h' o S A sl an a (r' + Int32.ofInt 1) kn th → Fr o S A h h' → WS p la e R s m args below meth c Q D cA B0 nL (pc + 3) l (.int (Int8.ofInt (-9)).toInt32 :: r) h' k n) : WS p la e R s m args below meth c Q D cA B0 nL pc l (.ref o :: r) h k n := by
  refine callV_ok (ci := 12) (T := TX10) (N := 6) (av := []) (r := r) X E (c_no h M) lkX10_no mlX10_88 lmX10_no lpX10_no hR hf rfl M.obj hW hd ?_
  rintro v h' ⟨rfl, M', F⟩
  exact kk h' M' F
end M38
section M38b
variable {la : Launch} {D : va_G} {cA : Nat → ClassId} {B0 pa : Nat} {o S A : Nat} {sl : List (List Nat)} {an : List (List (List Nat))} {a r kn th : Int32}
theorem RF.c_give (h : AH) (M : MD h o S A sl an a r kn (nI 0)) {k q : Nat} {x : List Nat} (hk : k < 6) (hq : h q = some (IA x)) (hx : TW x) (hn : x.length < 2 ^ 20) : CT la D cA B0 pa yX10_give cX10_give 3 (some .int) (rmD 1 0 0) [.ref o, vI k, .ref q] h (refR o S A kn (giveS k x (nI x.length) (sl, an, a, r)) h) := by
  refine CT_of (by decide +kernel) (Nat.le_of_ble_eq_true rfl) ?_
  intro p e s m args below meth c X E hr hlk hnm
  have dk : ∀ {pc : Nat} {q : Instr × Nat}, lkd DX10_give pc = some q → decode cX10_give pc = .ok q := lkd_ok DX10_give_ok
  have lx : (x.map vI).length = x.length := List.length_map _
  repeat refine fst1_ok X (dk rfl) rfl ?_
  refine br_ok X (dk rfl) rfl (show ((1 : Nat) : Int) + 10 = ((11 : Nat) : Int) from rfl) (fun q => absurd q (fun z => z)) (fun _ => ?_)
  refine fst1_ok X (dk rfl) rfl ?_
  refine alen_ok X (by decide) (dk rfl) hq ?_
  rw [lx]
  repeat refine fst1_ok X (dk rfl) rfl ?_
  refine br_ok X (dk rfl) rfl (show ((8 : Nat) : Int) + 8 = ((16 : Nat) : Int) from rfl) (fun c1 => ?_) (fun c1 => ?_)
  · rw [nI_16] at c1
    have hl16 : x.length ≤ 16 := (nI_leI (by omega) (by omega)).mp c1
    repeat refine fst1_ok X (dk rfl) rfl ?_
    refine getf_ok X flX10_11 (dk rfl) M.obj rfl ?_
    repeat refine fst1_ok X (dk rfl) rfl ?_
    obtain ⟨vs, g1, g2, M1⟩ := M.setS hk hq ⟨hx, hl16⟩
    refine str_ok X (dk rfl) g1 hq (by omega) (by omega) ?_
    repeat refine fst1_ok X (dk rfl) rfl ?_
    refine alen_ok (kd := 100) (vs := x.map vI) X (by decide) (dk rfl) (by rw [hup_ne _ _ (IA_ne hq g1)]; exact hq) ?_
    refine done_ok X E M1 ⟨Nat.le_of_ble_eq_true rfl, Nat.le_of_ble_eq_true rfl⟩ ⟨Nat.le_of_ble_eq_true rfl, Nat.le_of_ble_eq_true rfl⟩ (Nat.le_of_ble_eq_true rfl) (dk rfl) (fun h' M' F => ?_)
    exact reti_ok X hr hlk rfl (dk rfl) (refR_ok M' (((Fr.rf h).set (Or.inr (Or.inl rfl)) _).trans F) (by rw [lx]; exact if_neg (by omega))) (Nat.le_refl _) (Nat.le_refl _)
  · repeat refine fst1_ok X (dk rfl) rfl ?_
    refine no_ok X E M ⟨Nat.le_of_ble_eq_true rfl, Nat.le_of_ble_eq_true rfl⟩ ⟨Nat.le_of_ble_eq_true rfl, Nat.le_of_ble_eq_true rfl⟩ (Nat.le_of_ble_eq_true rfl) (dk rfl) (fun h' M' F => ?_)
    exact reti_ok X hr hlk rfl (dk rfl) (refR_ok M' F (if_pos (by
      rw [nI_16] at c1
      rcases Nat.lt_or_ge 16 x.length with z | z
      · exact z
      · exact absurd ((nI_leI (by omega) (by omega)).mpr z) c1))) (Nat.le_refl _) (Nat.le_refl _)
theorem RF.c_giveN (h : AH) (M : MD h o S A sl an a r kn (nI 0)) (k : Int32) : CT la D cA B0 pa yX10_give cX10_give 3 (some .int) (rmD 1 0 0) [.ref o, .int k, .null] h (refR o S A kn (noS (sl, an, a, r)) h) := by
  refine CT_of (by decide +kernel) (Nat.le_of_ble_eq_true rfl) ?_
  intro p e s m args below meth c X E hr hlk hnm
  have dk : ∀ {pc : Nat} {q : Instr × Nat}, lkd DX10_give pc = some q → decode cX10_give pc = .ok q := lkd_ok DX10_give_ok
  repeat refine fst1_ok X (dk rfl) rfl ?_
  refine br_ok X (dk rfl) rfl (show ((1 : Nat) : Int) + 10 = ((11 : Nat) : Int) from rfl) (fun _ => ?_) (fun q => absurd trivial q)
  repeat refine fst1_ok X (dk rfl) rfl ?_
  refine no_ok X E M ⟨Nat.le_of_ble_eq_true rfl, Nat.le_of_ble_eq_true rfl⟩ ⟨Nat.le_of_ble_eq_true rfl, Nat.le_of_ble_eq_true rfl⟩ (Nat.le_of_ble_eq_true rfl) (dk rfl) (fun h' M' F => ?_)
  exact reti_ok X hr hlk rfl (dk rfl) (refR_ok M' F rfl) (Nat.le_refl _) (Nat.le_refl _)
theorem RF.c_isPlace (h : AH) (M : MD h o S A sl an a r kn th) {k : Nat} (hk : k < 6) (pl : Int32) : CT la D cA B0 pa yX10_isPlace cX10_isPlace 3 (some .boolean) (rmD 0 0 0) [.ref o, vI k, .int pl] h (fun v h' => (∃ b : Bool, v = some (.int (bI b)) ∧ (b = true → ∀ x, sl[k]? = some x → inN x.length pl) ∧ (b = false → ∀ x, sl[k]? = some x → ¬ inN x.length pl)) ∧ h' = h) := by
  refine CT_of (by decide +kernel) (Nat.le_of_ble_eq_true rfl) ?_
  intro p e s m args below meth c X E hr hlk hnm
  have dk : ∀ {pc : Nat} {q : Instr × Nat}, lkd DX10_isPlace pc = some q → decode cX10_isPlace pc = .ok q := lkd_ok DX10_isPlace_ok
  obtain ⟨ss, s1, s2, s3⟩ := M.slot
  obtain ⟨b, x, e1, e2, e3, e4, e5⟩ := s3 k hk
  have lx : (x.map vI).length = x.length := List.length_map _
  have no' : ¬ inN x.length pl → ∀ (l : List (Nat × Value)), WR p la e (rmD 0 0 0) s m args below meth c D cA B0 3 (fun v h' => (∃ b : Bool, v = some (.int (bI b)) ∧ (b = true → ∀ x, sl[k]? = some x → inN x.length pl) ∧ (b = false → ∀ x, sl[k]? = some x → ¬ inN x.length pl)) ∧ h' = h) 19 l [] h 0 0 := by
    intro hx l
    refine fst1_ok (l' := l) (st' := [.int (bI false)]) X (dk rfl) rfl ?_
    exact reti_ok X hr hlk (bI_n _) (dk rfl) ⟨⟨false, rfl, (fun z => by cases z), fun _ y hy => by rw [Option.some.inj (hy.symm.trans e2)]; exact hx⟩, rfl⟩ (Nat.le_refl _) (Nat.le_refl _)
  repeat refine fst1_ok X (dk rfl) rfl ?_
  refine br_ok X (dk rfl) rfl (show ((1 : Nat) : Int) + 18 = ((19 : Nat) : Int) from rfl) (fun c0 => no' (fun z => inN_pos z (by omega) c0) _) (fun c1 => ?_)
  repeat refine fst1_ok X (dk rfl) rfl ?_
  refine getf_ok X flX10_11 (dk rfl) M.obj rfl ?_
  refine fst1_ok X (dk rfl) rfl ?_
  refine ldr_ok X (dk rfl) s2 e1 (by omega) ?_
  refine alen_ok X (by decide) (dk rfl) e3 ?_
  rw [lx]
  refine br_ok X (dk rfl) rfl (show ((12 : Nat) : Int) + 7 = ((19 : Nat) : Int) from rfl) (fun c0 => no' (fun z => Int32.not_le.mpr (inN_lt z (by omega)) c0) _) (fun c2 => ?_)
  repeat refine fst1_ok X (dk rfl) rfl ?_
  refine br_ok X (dk rfl) rfl (show ((16 : Nat) : Int) + 4 = ((20 : Nat) : Int) from rfl) (fun _ => ?_) (fun q => absurd trivial q)
  exact reti_ok X hr hlk (bI_n true) (dk rfl) ⟨⟨true, rfl, (fun _ y hy => by rw [Option.some.inj (hy.symm.trans e2)]; exact inN_of (by omega) c1 c2), fun z => by cases z⟩, rfl⟩ (Nat.le_refl _) (Nat.le_refl _)
theorem RF.c_become (h : AH) (M : MD h o S A sl an a r kn (nI 0)) {k q : Nat} {x : List (List Nat)} (hk : k < 3) (hq : Ans h q x) (hx : AO x) (hqS : q ≠ S) : CT la D cA B0 pa yX10_become cX10_become 3 (some .int) (rmD 4 8 8) [.ref o, vI k, .ref q] h (refR o S A kn (becS k x (sl, an, a, r)) h) := by
  refine CT_of (by decide +kernel) (Nat.le_of_ble_eq_true rfl) ?_
  intro p e s m args below meth c X E hr hlk hnm
  have dk : ∀ {pc : Nat} {q : Instr × Nat}, lkd DX10_become pc = some q → decode cX10_become pc = .ok q := lkd_ok DX10_become_ok
  repeat refine fst1_ok X (dk rfl) rfl ?_
  refine getf_ok X flX10_16 (dk rfl) M.obj rfl ?_
  repeat refine fst1_ok X (dk rfl) rfl ?_
  obtain ⟨vs, g1, g2, M1⟩ := M.setA hk hq hx hqS
  obtain ⟨vq, hq'⟩ := hq.kind
  refine sta_ok X (dk rfl) g1 hq' (by omega) (by omega) ?_
  repeat refine fst1_ok X (dk rfl) rfl ?_
  refine callS_ok (av := [.ref q]) (r := [.ref o]) X E (c_movedBy _ (hq.hup (k_ne g1 hq' (by decide)) g1 (by decide) _) hx) lkX10_movedBy mlX10_141 lsX10_movedBy ⟨Nat.le_of_ble_eq_true rfl, Nat.le_of_ble_eq_true rfl⟩ ⟨Nat.le_of_ble_eq_true rfl, Nat.le_of_ble_eq_true rfl⟩ (Nat.le_of_ble_eq_true rfl) (dk rfl) ?_
  rintro v h1 ⟨rfl, E1⟩
  refine callS_ok (av := [vI (movedN x 8)]) (r := [.ref o]) X E (c_ones h1 (nI (movedN x 8))) lkX10_ones mlX10_128 lsX10_ones ⟨Nat.le_of_ble_eq_true rfl, Nat.le_of_ble_eq_true rfl⟩ ⟨Nat.le_of_ble_eq_true rfl, Nat.le_of_ble_eq_true rfl⟩ (Nat.le_of_ble_eq_true rfl) (dk rfl) ?_
  rintro v h2 ⟨rfl, rfl⟩
  refine done_ok X E (M1.ext E1) ⟨Nat.le_of_ble_eq_true rfl, Nat.le_of_ble_eq_true rfl⟩ ⟨Nat.le_of_ble_eq_true rfl, Nat.le_of_ble_eq_true rfl⟩ (Nat.le_of_ble_eq_true rfl) (dk rfl) (fun h' M' F => ?_)
  exact reti_ok X hr hlk rfl (dk rfl) (refR_ok M' ((((Fr.rf h).set (Or.inr (Or.inr rfl)) _).trans (Fr.ext E1)).trans F) rfl) (Nat.le_refl _) (Nat.le_refl _)
end M38b
