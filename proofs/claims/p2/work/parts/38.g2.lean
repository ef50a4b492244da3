/-! guards at the walk, give, isPlace, become -/
section M38
variable {p : Program} {la : Launch} {e : Env} {R : Room} {s : State} {m : MethodId} {args : Array Value} {below : List Frame} {meth : Method} {c : Code} {Q : State → Prop}
variable {D : va_G} {cA : Nat → ClassId} {B0 pa nL : Nat} {cc : ByteArray} {own : String} {pc k n : Nat} {l : List (Nat × Value)} {r : List Value} {h : AH}
theorem isSlot_ok (X : CX p s m args c D cA B0 nL cc own) (E : EN D cA B0 pa s) {idx : Nat} {x : Int32} (hl : Cond.methodLink own idx yX10_isSlot ∈ WT) (hR : 1 ≤ R.frames ∧ 20 ≤ R.locals) (hf : k ≤ R.cells ∧ n ≤ R.slots) (hW : (r.map fun v => v.category).sum ≤ 8) (hd : decode cc pc = .ok (.invokestatic idx, 3))
    (kk : ∀ b : Bool, (b = true → inN 6 x) → WS p la e R s m args below meth c Q D cA B0 nL (pc + 3) l (.int (bI b) :: r) h k n) : WS p la e R s m args below meth c Q D cA B0 nL pc l (.int x :: r) h k n := by
  refine callS_ok (av := [.int x]) (r := r) X E (c_isSlot h x) lkX10_isSlot hl lsX10_isSlot hR hf hW hd ?_
  rintro v h' ⟨⟨b, rfl, hb⟩, rfl⟩
  exact kk b hb
theorem isName_ok (X : CX p s m args c D cA B0 nL cc own) (E : EN D cA B0 pa s) {idx : Nat} {x : Int32} (hl : Cond.methodLink own idx yX10_isName ∈ WT) (hR : 1 ≤ R.frames ∧ 20 ≤ R.locals) (hf : k ≤ R.cells ∧ n ≤ R.slots) (hW : (r.map fun v => v.category).sum ≤ 8) (hd : decode cc pc = .ok (.invokestatic idx, 3))
    (kk : ∀ b : Bool, (b = true → inN 8 x) → WS p la e R s m args below meth c Q D cA B0 nL (pc + 3) l (.int (bI b) :: r) h k n) : WS p la e R s m args below meth c Q D cA B0 nL pc l (.int x :: r) h k n := by
  refine callS_ok (av := [.int x]) (r := r) X E (c_isName h x) lkX10_isName hl lsX10_isName hR hf hW hd ?_
  rintro v h' ⟨⟨b, rfl, hb⟩, rfl⟩
  exact kk b hb
theorem isAnswer_ok (X : CX p s m args c D cA B0 nL cc own) (E : EN D cA B0 pa s) {idx : Nat} {x : Int32} (hl : Cond.methodLink own idx yX10_isAnswer ∈ WT) (hR : 1 ≤ R.frames ∧ 20 ≤ R.locals) (hf : k ≤ R.cells ∧ n ≤ R.slots) (hW : (r.map fun v => v.category).sum ≤ 8) (hd : decode cc pc = .ok (.invokestatic idx, 3))
    (kk : ∀ b : Bool, (b = true → inN 3 x) → WS p la e R s m args below meth c Q D cA B0 nL (pc + 3) l (.int (bI b) :: r) h k n) : WS p la e R s m args below meth c Q D cA B0 nL pc l (.int x :: r) h k n := by
  refine callS_ok (av := [.int x]) (r := r) X E (c_isAnswer h x) lkX10_isAnswer hl lsX10_isAnswer hR hf hW hd ?_
  rintro v h' ⟨⟨b, rfl, hb⟩, rfl⟩
  exact kk b hb
variable {o S A : Nat} {sl : List (List Nat)} {an : List (List (List Nat))} {a r' kn th : Int32}
/-- what a call of the reference leaves -/
def MI (o S A : Nat) (kn : Int32) (h h' : AH) : Prop := (∃ sl an a r th, MD h' o S A sl an a r kn th) ∧ Fr o S A h h'
def intR (o S A : Nat) (kn : Int32) (h : AH) (v : Option Value) (h' : AH) : Prop := (∃ x : Int32, v = some (.int x)) ∧ MI o S A kn h h'
def booR (o S A : Nat) (kn : Int32) (h : AH) (v : Option Value) (h' : AH) : Prop := (∃ b : Bool, v = some (.int (bI b))) ∧ MI o S A kn h h'
theorem MD.mi (M : MD h o S A sl an a r' kn th) : MI o S A kn h h := ⟨⟨_, _, _, _, _, M⟩, Fr.rf h⟩
theorem MC.mi {h' : AH} (M : MC o S A sl an kn h h') : MI o S A kn h h' := ⟨⟨_, _, M.1.choose_spec.choose_spec.choose_spec |> fun q => ⟨_, _, _, q⟩⟩, M.2⟩
theorem MI.trans {h1 h2 : AH} (F : Fr o S A h h1) (M : MI o S A kn h1 h2) : MI o S A kn h h2 := ⟨M.1, F.trans M.2⟩
theorem thr1_ok (X : CX p s m args c D cA B0 nL cc RX10) (E : EN D cA B0 pa s) (M : MD h o S A sl an a r' kn th) {b : Bool} (hR : 2 ≤ R.frames ∧ 61 ≤ R.locals) (hf : k ≤ R.cells ∧ n ≤ R.slots) (hW : (r.map fun v => v.category).sum ≤ 8) (hd : decode cc pc = .ok (.invokevirtual 110, 3))
    (kk : ∀ (h' : AH) (a r' th : Int32), MD h' o S A sl an a r' kn th → Fr o S A h h' → WS p la e R s m args below meth c Q D cA B0 nL (pc + 3) l (.int (bI b) :: r) h' k n) : WS p la e R s m args below meth c Q D cA B0 nL pc l (.int (bI b) :: .ref o :: r) h k n := by
  refine callV_ok (ci := 12) (T := TX10) (N := 6) (av := [.int (bI b)]) (r := r) X E (c_isThrown_ h M b) lkX10_isThrown_ mlX10_110 lmX10_isThrown_ lpX10_isThrown_ hR hf rfl M.obj hW hd ?_
  rintro v h' ⟨rfl, ⟨a', r'', th', M'⟩, F⟩
  exact kk h' a' r'' th' M' F
theorem thr2_ok (X : CX p s m args c D cA B0 nL cc RX10) (E : EN D cA B0 pa s) (M : MD h o S A sl an a r' kn th) {b1 b2 : Bool} (hR : 1 ≤ R.frames ∧ 22 ≤ R.locals) (hf : k ≤ R.cells ∧ n ≤ R.slots) (hW : (r.map fun v => v.category).sum ≤ 8) (hd : decode cc pc = .ok (.invokevirtual 78, 3))
    (kk : ∀ (h' : AH) (a r' th : Int32), MD h' o S A sl an a r' kn th → Fr o S A h h' → WS p la e R s m args below meth c Q D cA B0 nL (pc + 3) l (.int (bI (b1 || b2)) :: r) h' k n) : WS p la e R s m args below meth c Q D cA B0 nL pc l (.int (bI b2) :: .int (bI b1) :: .ref o :: r) h k n := by
  refine callV_ok (ci := 12) (T := TX10) (N := 6) (av := [.int (bI b1), .int (bI b2)]) (r := r) X E (c_isThrown h M b1 b2) lkX10_isThrown mlX10_78 lmX10_isThrown lpX10_isThrown hR hf rfl M.obj hW hd ?_
  rintro v h' ⟨rfl, ⟨a', r'', th', M'⟩, F⟩
  exact kk h' a' r'' th' M' F
theorem done_ok (X : CX p s m args c D cA B0 nL cc RX10) (E : EN D cA B0 pa s) (M : MD h o S A sl an a r' kn th) {x : Int32} (hR : 1 ≤ R.frames ∧ 21 ≤ R.locals) (hf : k ≤ R.cells ∧ n ≤ R.slots) (hW : (r.map fun v => v.category).sum ≤ 8) (hd : decode cc pc = .ok (.invokevirtual 92, 3))
    (kk : ∀ (h' : AH) (a r' th : Int32), MD h' o S A sl an a r' kn th → Fr o S A h h' → WS p la e R s m args below meth c Q D cA B0 nL (pc + 3) l (.int x :: r) h' k n) : WS p la e R s m args below meth c Q D cA B0 nL pc l (.int x :: .ref o :: r) h k n := by
  refine callV_ok (ci := 12) (T := TX10) (N := 6) (av := [.int x]) (r := r) X E (c_done h M x) lkX10_done mlX10_92 lmX10_done lpX10_done hR hf rfl M.obj hW hd ?_
  rintro v h' ⟨rfl, ⟨a', r'', th', M'⟩, F⟩
  exact kk h' a' r'' th' M' F
theorem no_ok (X : CX p s m args c D cA B0 nL cc RX10) (E : EN D cA B0 pa s) (M : MD h o S A sl an a r' kn th) (hR : 1 ≤ R.frames ∧ 20 ≤ R.locals) (hf : k ≤ R.cells ∧ n ≤ R.slots) (hW : (r.map fun v => v.category).sum ≤ 8) (hd : decode cc pc = .ok (.invokevirtual 88, 3))
    (kk : ∀ (h' : AH) (a r' th : Int32), MD h' o S A sl an a r' kn th → Fr o S A h h' → WS p la e R s m args below meth c Q D cA B0 nL (pc + 3) l (.int (Int8.ofInt (-9)).toInt32 :: r) h' k n) : WS p la e R s m args below meth c Q D cA B0 nL pc l (.ref o :: r) h k n := by
  refine callV_ok (ci := 12) (T := TX10) (N := 6) (av := []) (r := r) X E (c_no h M) lkX10_no mlX10_88 lmX10_no lpX10_no hR hf rfl M.obj hW hd ?_
  rintro v h' ⟨rfl, ⟨a', r'', th', M'⟩, F⟩
  exact kk h' a' r'' th' M' F
/-- a load from an array of arrays of rows -/
theorem lda_ok (X : CX p s m args c D cA B0 nL cc own) {a j q : Nat} {as : List Nat} (hd : decode cc pc = .ok (.aaload, 1)) (ha : h a = some (106, as.map Value.ref)) (hq : as[j]? = some q) (hl : as.length < 2 ^ 31)
    (kk : WS p la e R s m args below meth c Q D cA B0 nL (pc + 1) l (.ref q :: r) h k n) : WS p la e R s m args below meth c Q D cA B0 nL pc l (.int (nI j) :: .ref a :: r) h k n :=
  ald_ok X (Or.inr (Or.inr ⟨rfl, by decide⟩)) hd ha (inA_nI (v := .ref q) (by have := (List.getElem?_eq_some_iff.mp hq).1; omega) (by rw [List.getElem?_map, hq]; rfl)) kk
/-- a store into an array of arrays of rows -/
theorem sta_ok (X : CX p s m args c D cA B0 nL cc own) {a j q : Nat} {vs fs : List Value} (hd : decode cc pc = .ok (.aastore, 1)) (ha : h a = some (106, vs)) (hq : h q = some (105, fs)) (hj : j < vs.length) (hl : vs.length < 2 ^ 31)
    (kk : WS p la e R s m args below meth c Q D cA B0 nL (pc + 1) l r (hup h a (106, vs.set j (.ref q))) k n) : WS p la e R s m args below meth c Q D cA B0 nL pc l (.ref q :: .int (nI j) :: .ref a :: r) h k n := by
  have e : (nI j).toNatClampNeg = j := nI_clamp (by omega)
  refine ast_ok X (Or.inr (Or.inr (Or.inr (Or.inr (Or.inr ⟨rfl, rfl, q, fs, rfl, hq⟩))))) hd ha ⟨nI_pos (by omega), by rw [e]; exact hj⟩ ?_
  rw [e]
  exact kk
end M38
section M38b
variable {la : Launch} {D : va_G} {cA : Nat → ClassId} {B0 pa : Nat} {o S A : Nat} {sl : List (List Nat)} {an : List (List (List Nat))} {a r kn th : Int32}
theorem nI_16 : (Int8.ofInt 16).toInt32 = nI 16 := by decide +kernel
theorem c_give (h : AH) (M : MD h o S A sl an a r kn th) {k q : Nat} {x : List Nat} (hk : k < 6) (hq : h q = some (IA x)) (hx : TW x) (hn : x.length < 2 ^ 20) : CT la D cA B0 pa yX10_give cX10_give 3 (some .int) (rmD 1 0 0) [.ref o, vI k, .ref q] h (intR o S A kn h) := by
  refine CT_of (by decide +kernel) (Nat.le_of_ble_eq_true rfl) ?_
  intro p e s m args below meth c X E hr hlk hnm
  have dk : ∀ {pc : Nat} {q : Instr × Nat}, lkd DX10_give pc = some q → decode cX10_give pc = .ok q := lkd_ok DX10_give_ok
  have lx : (x.map vI).length = x.length := List.length_map _
  repeat refine fst1_ok X (dk rfl) rfl ?_
  refine br_ok X (dk rfl) rfl (show ((1 : Nat) : Int) + 10 = ((11 : Nat) : Int) from rfl) (fun q => absurd q (fun z => z)) (fun _ => ?_)
  refine fst1_ok X (dk rfl) rfl ?_
  refine alen_ok X (by decide) (dk rfl) hq ?_
  rw [lx]
  repeat refine fst1_ok X (dk rfl) rfl ?_
  refine br_ok X (dk rfl) rfl (show ((8 : Nat) : Int) + 8 = ((16 : Nat) : Int) from rfl) (fun c1 => ?_) (fun _ => ?_)
  · rw [nI_16] at c1
    have hl16 : x.length ≤ 16 := (nI_leI (by omega) (by omega)).mp c1
    repeat refine fst1_ok X (dk rfl) rfl ?_
    refine getf_ok X flX10_11 (dk rfl) M.obj rfl ?_
    repeat refine fst1_ok X (dk rfl) rfl ?_
    obtain ⟨vs, g1, g2, M1⟩ := M.setS hk hq ⟨hx, hl16⟩
    refine str_ok X (dk rfl) g1 hq (by omega) (by omega) ?_
    repeat refine fst1_ok X (dk rfl) rfl ?_
    refine alen_ok (kd := 100) (vs := x.map vI) X (by decide) (dk rfl) (by rw [hup_ne _ _ (IA_ne hq g1)]; exact hq) ?_
    refine done_ok X E M1 ⟨Nat.le_of_ble_eq_true rfl, Nat.le_of_ble_eq_true rfl⟩ ⟨Nat.le_of_ble_eq_true rfl, Nat.le_of_ble_eq_true rfl⟩ (Nat.le_of_ble_eq_true rfl) (dk rfl) (fun h' a' r'' th' M' F => ?_)
    exact reti_ok X hr hlk rfl (dk rfl) ⟨⟨_, rfl⟩, MI.trans ((Fr.rf h).set (Or.inr (Or.inl rfl)) _) ⟨⟨_, _, _, _, _, M'⟩, F⟩⟩ (Nat.le_refl _) (Nat.le_refl _)
  · repeat refine fst1_ok X (dk rfl) rfl ?_
    refine no_ok X E M ⟨Nat.le_of_ble_eq_true rfl, Nat.le_of_ble_eq_true rfl⟩ ⟨Nat.le_of_ble_eq_true rfl, Nat.le_of_ble_eq_true rfl⟩ (Nat.le_of_ble_eq_true rfl) (dk rfl) (fun h' a' r'' th' M' F => ?_)
    exact reti_ok X hr hlk rfl (dk rfl) ⟨⟨_, rfl⟩, ⟨_, _, _, _, _, M'⟩, F⟩ (Nat.le_refl _) (Nat.le_refl _)
theorem c_giveN (h : AH) (M : MD h o S A sl an a r kn th) (k : Int32) : CT la D cA B0 pa yX10_give cX10_give 3 (some .int) (rmD 1 0 0) [.ref o, .int k, .null] h (intR o S A kn h) := by
  refine CT_of (by decide +kernel) (Nat.le_of_ble_eq_true rfl) ?_
  intro p e s m args below meth c X E hr hlk hnm
  have dk : ∀ {pc : Nat} {q : Instr × Nat}, lkd DX10_give pc = some q → decode cX10_give pc = .ok q := lkd_ok DX10_give_ok
  repeat refine fst1_ok X (dk rfl) rfl ?_
  refine br_ok X (dk rfl) rfl (show ((1 : Nat) : Int) + 10 = ((11 : Nat) : Int) from rfl) (fun _ => ?_) (fun q => absurd trivial q)
  repeat refine fst1_ok X (dk rfl) rfl ?_
  refine no_ok X E M ⟨Nat.le_of_ble_eq_true rfl, Nat.le_of_ble_eq_true rfl⟩ ⟨Nat.le_of_ble_eq_true rfl, Nat.le_of_ble_eq_true rfl⟩ (Nat.le_of_ble_eq_true rfl) (dk rfl) (fun h' a' r'' th' M' F => ?_)
  exact reti_ok X hr hlk rfl (dk rfl) ⟨⟨_, rfl⟩, ⟨_, _, _, _, _, M'⟩, F⟩ (Nat.le_refl _) (Nat.le_refl _)
theorem c_isPlace (h : AH) (M : MD h o S A sl an a r kn th) {k : Nat} (hk : k < 6) (pl : Int32) : CT la D cA B0 pa yX10_isPlace cX10_isPlace 3 (some .boolean) (rmD 0 0 0) [.ref o, vI k, .int pl] h (fun v h' => (∃ b : Bool, v = some (.int (bI b)) ∧ (b = true → ∀ x, sl[k]? = some x → inN x.length pl)) ∧ h' = h) := by
  refine CT_of (by decide +kernel) (Nat.le_of_ble_eq_true rfl) ?_
  intro p e s m args below meth c X E hr hlk hnm
  have dk : ∀ {pc : Nat} {q : Instr × Nat}, lkd DX10_isPlace pc = some q → decode cX10_isPlace pc = .ok q := lkd_ok DX10_isPlace_ok
  obtain ⟨ss, s1, s2, s3⟩ := M.slot
  obtain ⟨b, x, e1, e2, e3, e4, e5⟩ := s3 k hk
  have lx : (x.map vI).length = x.length := List.length_map _
  have no' : ∀ (l : List (Nat × Value)), WR p la e (rmD 0 0 0) s m args below meth c D cA B0 3 (fun v h' => (∃ b : Bool, v = some (.int (bI b)) ∧ (b = true → ∀ x, sl[k]? = some x → inN x.length pl)) ∧ h' = h) 19 l [] h 0 0 := by
    intro l
    refine fst1_ok (l' := l) (st' := [.int (bI false)]) X (dk rfl) rfl ?_
    exact reti_ok X hr hlk (bI_n _) (dk rfl) ⟨⟨false, rfl, fun z => by cases z⟩, rfl⟩ (Nat.le_refl _) (Nat.le_refl _)
  repeat refine fst1_ok X (dk rfl) rfl ?_
  refine br_ok X (dk rfl) rfl (show ((1 : Nat) : Int) + 18 = ((19 : Nat) : Int) from rfl) (fun _ => no' _) (fun c1 => ?_)
  repeat refine fst1_ok X (dk rfl) rfl ?_
  refine getf_ok X flX10_11 (dk rfl) M.obj rfl ?_
  refine fst1_ok X (dk rfl) rfl ?_
  refine ldr_ok X (dk rfl) s2 e1 (by omega) ?_
  refine alen_ok X (by decide) (dk rfl) e3 ?_
  rw [lx]
  refine br_ok X (dk rfl) rfl (show ((12 : Nat) : Int) + 7 = ((19 : Nat) : Int) from rfl) (fun _ => no' _) (fun c2 => ?_)
  repeat refine fst1_ok X (dk rfl) rfl ?_
  refine br_ok X (dk rfl) rfl (show ((16 : Nat) : Int) + 4 = ((20 : Nat) : Int) from rfl) (fun _ => ?_) (fun q => absurd trivial q)
  exact reti_ok X hr hlk (bI_n true) (dk rfl) ⟨⟨true, rfl, fun _ y hy => by rw [Option.some.inj (hy.symm.trans e2)]; exact inN_of (by omega) c1 c2⟩, rfl⟩ (Nat.le_refl _) (Nat.le_refl _)
theorem c_become (h : AH) (M : MD h o S A sl an a r kn th) {k q : Nat} {x : List (List Nat)} (hk : k < 3) (hq : Ans h q x) (hx : AO x) (hqS : q ≠ S) : CT la D cA B0 pa yX10_become cX10_become 3 (some .int) (rmD 4 8 8) [.ref o, vI k, .ref q] h (intR o S A kn h) := by
  refine CT_of (by decide +kernel) (Nat.le_of_ble_eq_true rfl) ?_
  intro p e s m args below meth c X E hr hlk hnm
  have dk : ∀ {pc : Nat} {q : Instr × Nat}, lkd DX10_become pc = some q → decode cX10_become pc = .ok q := lkd_ok DX10_become_ok
  repeat refine fst1_ok X (dk rfl) rfl ?_
  refine getf_ok X flX10_16 (dk rfl) M.obj rfl ?_
  repeat refine fst1_ok X (dk rfl) rfl ?_
  obtain ⟨vs, g1, g2, M1⟩ := M.setA hk hq hx hqS
  obtain ⟨vq, hq'⟩ := hq.kind
  refine sta_ok X (dk rfl) g1 hq' (by omega) (by omega) ?_
  repeat refine fst1_ok X (dk rfl) rfl ?_
  refine callS_ok (av := [.ref q]) (r := [.ref o]) X E (c_movedBy _ (hq.hup (k_ne g1 hq' (by decide)) g1 (by decide) _) hx) lkX10_movedBy mlX10_141 lsX10_movedBy ⟨Nat.le_of_ble_eq_true rfl, Nat.le_of_ble_eq_true rfl⟩ ⟨Nat.le_of_ble_eq_true rfl, Nat.le_of_ble_eq_true rfl⟩ (Nat.le_of_ble_eq_true rfl) (dk rfl) ?_
  rintro v h1 ⟨rfl, E1⟩
  refine callS_ok (av := [vI (movedN x 8)]) (r := [.ref o]) X E (c_ones h1 (nI (movedN x 8))) lkX10_ones mlX10_128 lsX10_ones ⟨Nat.le_of_ble_eq_true rfl, Nat.le_of_ble_eq_true rfl⟩ ⟨Nat.le_of_ble_eq_true rfl, Nat.le_of_ble_eq_true rfl⟩ (Nat.le_of_ble_eq_true rfl) (dk rfl) ?_
  rintro v h2 ⟨rfl, rfl⟩
  refine done_ok X E (M1.ext E1) ⟨Nat.le_of_ble_eq_true rfl, Nat.le_of_ble_eq_true rfl⟩ ⟨Nat.le_of_ble_eq_true rfl, Nat.le_of_ble_eq_true rfl⟩ (Nat.le_of_ble_eq_true rfl) (dk rfl) (fun h' a' r'' th' M' F => ?_)
  exact reti_ok X hr hlk rfl (dk rfl) ⟨⟨_, rfl⟩, MI.trans (((Fr.rf h).set (Or.inr (Or.inr rfl)) _).trans (Fr.ext E1)) ⟨⟨_, _, _, _, _, M'⟩, F⟩⟩ (Nat.le_refl _) (Nat.le_refl _)
end M38b
