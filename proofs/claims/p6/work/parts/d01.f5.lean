/-! the class, weakly, over types that keep contents: terms, answers (printed by wip/p20/genFZ.py) -/
def FZ.LR (_ : Int32) : Prop := True
theorem FZ.LR_nI {n : Nat} (_ : n ≤ 158) : LR (nI n) := trivial
theorem FZ.LR_9 : LR (Int8.ofInt (-9)).toInt32 := trivial
theorem FZ.LR_bc (x : Int32) : LR (bcF x) := trivial
theorem FZ.LR_dec {n : Nat} (_ : n ≤ 158) : LR (nI n - Int32.ofInt 1) := trivial
def FZ.letφ (L : Nat) : AC → Prop := fun c => ∃ xs : List Int32, c = (107, xs.map Value.int) ∧ xs.length = L ∧ ∀ x ∈ xs, LR x
theorem FZ.letφ_set {L : Nat} {xs : List Int32} (h1 : xs.length = L) (h2 : ∀ x ∈ xs, LR x) (j : Nat) {v : Int32} (hv : LR v) : letφ L (107, (xs.set j v).map Value.int) :=
  ⟨_, rfl, by rw [List.length_set]; exact h1, fun x hx => (List.mem_or_eq_of_mem_set hx).elim (h2 x) (fun e => by rw [e]; exact hv)⟩
/-- a cell of this type, or of a narrower one -/
def FZ.TmG : Bool → TY → Nat → Nat → Nat → Prop
  | true, Γ, b, q, L => Γ b = some (termφ q L)
  | false, Γ, b, q, L => ∃ φ, Γ b = some φ ∧ ∀ c, φ c → termφ q L c
def FZ.LtG : Bool → TY → Nat → Nat → Prop
  | true, Γ, q, L => Γ q = some (letφ L)
  | false, Γ, q, L => ∃ φ, Γ q = some φ ∧ ∀ c, φ c → letφ L c
def FZ.TermG (w : Bool) (Γ : TY) (b L : Nat) : Prop := L ≤ 256 ∧ ∃ q, TmG w Γ b q L ∧ LtG w Γ q L
abbrev FZ.TermT (Γ : TY) (b L : Nat) : Prop := TermG true Γ b L
def FZ.AnsG (w : Bool) (Γ : TY) (b : Nat) : Prop := ∃ (arr : Nat) (ts : List Nat), Γ b = some (isφ (2, [.ref arr])) ∧ Γ arr = some (isφ (103, ts.map Value.ref)) ∧ ts.length = 8 ∧ ∀ t ∈ ts, TermG w Γ t 16
def FZ.StepsT (Γ : TY) (b : Nat) : Prop := ∃ bo st pr, Γ b = some (stepφ bo st pr) ∧ TermT Γ bo 32 ∧ Γ st = some (rowφ 8) ∧ PairsT Γ pr
def FZ.ClassT (Γ : TY) (b : Nat) : Prop := ∃ bo co ho st pr, Γ b = some (isφ (3, [.ref bo, .ref co, .ref ho, .ref st, .ref pr])) ∧ TermT Γ bo 32 ∧ Γ co = some (rowφ 32) ∧ Γ ho = some (rowφ 32) ∧ Γ st = some (rowφ 8) ∧ PairsT Γ pr
def FZ.BmC (Γ : TY) (b S A sp os wd ow sa oa bs bc sh : Nat) (kn : Int32) : Prop := ∃ φ, Γ b = some φ ∧ ∀ c, φ c → objφ S A sp os wd ow sa oa bs bc sh kn c
def FZ.BmT (Γ : TY) (b : Nat) (kn : Int32) : Prop := ∃ (S A sp os wd ow sa oa bs bc sh : Nat) (ss as : List Nat), BmC Γ b S A sp os wd ow sa oa bs bc sh kn ∧ Γ S = some (isφ (103, ss.map Value.ref)) ∧ Γ A = some (isφ (104, as.map Value.ref)) ∧ ss.length = 6 ∧ (∀ t ∈ ss, TermG false Γ t 16) ∧ as.length = 3 ∧ (∀ t ∈ as, AnsG false Γ t) ∧
  TermT Γ sp 16 ∧ TermT Γ os 16 ∧ TermT Γ wd 256 ∧ TermT Γ ow 256 ∧ AnsG true Γ sa ∧ AnsG true Γ oa ∧ StepsT Γ bs ∧ ClassT Γ bc ∧ ShapeT Γ sh
theorem FZ.tm_open {w : Bool} {Γ : TY} {h : AH} (I : Tyg Γ h) {b q L : Nat} (g : TmG w Γ b q L) : ∃ (f : Nat) (t : Bool), h b = some (7, [.ref q, vI f, .int (bI t)]) ∧ f ≤ L := by
  cases w with
  | true =>
    obtain ⟨c, hc, f, t, rfl, hf⟩ := I _ _ g
    exact ⟨f, t, hc, hf⟩
  | false =>
    obtain ⟨φ, g1, g2⟩ := g
    obtain ⟨c, hc, hp⟩ := I _ _ g1
    obtain ⟨f, t, rfl, hf⟩ := g2 _ hp
    exact ⟨f, t, hc, hf⟩
theorem FZ.lt_open {w : Bool} {Γ : TY} {h : AH} (I : Tyg Γ h) {q L : Nat} (g : LtG w Γ q L) : ∃ xs : List Int32, h q = some (107, xs.map Value.int) ∧ xs.length = L ∧ ∀ x ∈ xs, LR x := by
  cases w with
  | true =>
    obtain ⟨c, hc, xs, rfl, h1, h2⟩ := I _ _ g
    exact ⟨xs, hc, h1, h2⟩
  | false =>
    obtain ⟨φ, g1, g2⟩ := g
    obtain ⟨c, hc, hp⟩ := I _ _ g1
    obtain ⟨xs, rfl, h1, h2⟩ := g2 _ hp
    exact ⟨xs, hc, h1, h2⟩
theorem FZ.tm_cell {w : Bool} {Γ : TY} {h : AH} (I : Tyg Γ h) {b q L : Nat} (g : TmG w Γ b q L) : ∃ fs, h b = some (7, fs) := by
  obtain ⟨f, t, h1, -⟩ := tm_open I g
  exact ⟨_, h1⟩
theorem FZ.bm_open {Γ : TY} {h : AH} (I : Tyg Γ h) {b S A sp os wd ow sa oa bs bc sh : Nat} {kn : Int32} (g : BmC Γ b S A sp os wd ow sa oa bs bc sh kn) : ∃ d r : Int32, h b = some (8, [.ref S, .ref A, .int d, .int r, .int kn, .ref sp, .ref os, .ref wd, .ref ow, .ref sa, .ref oa, .ref bs, .ref bc, .ref sh]) := by
  obtain ⟨φ, g1, g2⟩ := g
  obtain ⟨c, hc, hp⟩ := I _ _ g1
  obtain ⟨d, r, rfl⟩ := g2 _ hp
  exact ⟨d, r, hc⟩
theorem FZ.bm_cell {Γ : TY} {h : AH} (I : Tyg Γ h) {b S A sp os wd ow sa oa bs bc sh : Nat} {kn : Int32} (g : BmC Γ b S A sp os wd ow sa oa bs bc sh kn) : ∃ fs, h b = some (8, fs) := by
  obtain ⟨d, r, h1⟩ := bm_open I g
  exact ⟨_, h1⟩
def FZ.lP (v : Option Value) : Prop := ∃ x : Int32, LR x ∧ v = some (.int x)
section M88
variable {la : Launch} {D : va_G} {cA : Nat → ClassId} {B0 pa : Nat} {Γ : TY}
set_option maxHeartbeats 4000000 in
theorem FZ.c5_length (h : AH) (I : Tyg Γ h) {o0 L0 : Nat} {w0 : Bool} (T0 : TermG w0 Γ o0 L0) : CT la D cA B0 pa yX5_length cX5_length 1 (some .int) (rmD 0 0 0) [.ref o0] h (RdO (nP L0) h) := by
  refine CT_of (by decide +kernel) (Nat.le_of_ble_eq_true rfl) ?_
  intro p e s m args below meth c X E hr hlk hnm
  have dk : ∀ {pc : Nat} {q : Instr × Nat}, lkd DX5_length pc = some q → decode cX5_length pc = .ok q := lkd_ok DX5_length_ok
  obtain ⟨hL2, q1, gb3, gl4⟩ := id T0
  refine fst1_ok X (dk rfl) rfl ?_
  obtain ⟨f5, t6, hx7, hf8⟩ := tm_open (TI.rf I).1 gb3
  refine getf_ok X flX5_21 (dk rfl) hx7 rfl ?_
  exact reti_ok X hr hlk rfl (dk rfl) ⟨⟨_, hf8, rfl⟩, rfl⟩ (Nat.le_of_ble_eq_true rfl) (Nat.le_of_ble_eq_true rfl)
set_option maxHeartbeats 4000000 in
theorem FZ.c5_isTooLong (h : AH) (I : Tyg Γ h) {o0 L0 : Nat} {w0 : Bool} (T0 : TermG w0 Γ o0 L0) : CT la D cA B0 pa yX5_isTooLong cX5_isTooLong 1 (some .boolean) (rmD 0 0 0) [.ref o0] h (RdO bP h) := by
  refine CT_of (by decide +kernel) (Nat.le_of_ble_eq_true rfl) ?_
  intro p e s m args below meth c X E hr hlk hnm
  have dk : ∀ {pc : Nat} {q : Instr × Nat}, lkd DX5_isTooLong pc = some q → decode cX5_isTooLong pc = .ok q := lkd_ok DX5_isTooLong_ok
  obtain ⟨hL2, q1, gb3, gl4⟩ := id T0
  refine fst1_ok X (dk rfl) rfl ?_
  obtain ⟨f5, t6, hx7, hf8⟩ := tm_open (TI.rf I).1 gb3
  refine getf_ok X flX5_25 (dk rfl) hx7 rfl ?_
  exact reti_ok X hr hlk (bI_n t6) (dk rfl) ⟨⟨t6, rfl⟩, rfl⟩ (Nat.le_of_ble_eq_true rfl) (Nat.le_of_ble_eq_true rfl)
set_option maxHeartbeats 4000000 in
theorem FZ.c5_hasPlace (h : AH) (I : Tyg Γ h) {o0 L0 : Nat} {w0 : Bool} (T0 : TermG w0 Γ o0 L0) (x1 : Int32) : CT la D cA B0 pa yX5_hasPlace cX5_hasPlace 2 (some .boolean) (rmD 0 0 0) [.ref o0, .int (x1)] h (RdO bP h) := by
  refine CT_of (by decide +kernel) (Nat.le_of_ble_eq_true rfl) ?_
  intro p e s m args below meth c X E hr hlk hnm
  have dk : ∀ {pc : Nat} {q : Instr × Nat}, lkd DX5_hasPlace pc = some q → decode cX5_hasPlace pc = .ok q := lkd_ok DX5_hasPlace_ok
  obtain ⟨hL2, q1, gb3, gl4⟩ := id T0
  refine fst1_ok X (dk rfl) rfl ?_
  refine br_ok X (dk rfl) rfl (show ((1 : Nat) : Int) + 15 = ((16 : Nat) : Int) from rfl) (fun c5 => ?_) (fun c6 => ?_)
  · refine fst1_ok X (dk rfl) rfl ?_
    exact reti_ok X hr hlk (bI_n false) (dk rfl) ⟨⟨false, rfl⟩, rfl⟩ (Nat.le_of_ble_eq_true rfl) (Nat.le_of_ble_eq_true rfl)
  · iterate 2 refine fst1_ok X (dk rfl) rfl ?_
    obtain ⟨f7, t8, hx9, hf10⟩ := tm_open (TI.rf I).1 gb3
    refine getf_ok X flX5_21 (dk rfl) hx9 rfl ?_
    refine br_ok X (dk rfl) rfl (show ((9 : Nat) : Int) + 7 = ((16 : Nat) : Int) from rfl) (fun c11 => ?_) (fun c12 => ?_)
    · refine fst1_ok X (dk rfl) rfl ?_
      exact reti_ok X hr hlk (bI_n false) (dk rfl) ⟨⟨false, rfl⟩, rfl⟩ (Nat.le_of_ble_eq_true rfl) (Nat.le_of_ble_eq_true rfl)
    · refine fst1_ok X (dk rfl) rfl ?_
      refine br_ok X (dk rfl) rfl (show ((13 : Nat) : Int) + 4 = ((17 : Nat) : Int) from rfl) (fun _ => ?_) (fun q => absurd trivial q)
      exact reti_ok X hr hlk (bI_n true) (dk rfl) ⟨⟨true, rfl⟩, rfl⟩ (Nat.le_of_ble_eq_true rfl) (Nat.le_of_ble_eq_true rfl)
set_option maxHeartbeats 4000000 in
theorem FZ.c5_letterAt (h : AH) (I : Tyg Γ h) {o0 L0 : Nat} {w0 : Bool} (T0 : TermG w0 Γ o0 L0) (x1 : Int32) : CT la D cA B0 pa yX5_letterAt cX5_letterAt 2 (some .int) (rmD 0 0 0) [.ref o0, .int (x1)] h (RdO lP h) := by
  refine CT_of (by decide +kernel) (Nat.le_of_ble_eq_true rfl) ?_
  intro p e s m args below meth c X E hr hlk hnm
  have dk : ∀ {pc : Nat} {q : Instr × Nat}, lkd DX5_letterAt pc = some q → decode cX5_letterAt pc = .ok q := lkd_ok DX5_letterAt_ok
  obtain ⟨hL2, q1, gb3, gl4⟩ := id T0
  refine fst1_ok X (dk rfl) rfl ?_
  refine br_ok X (dk rfl) rfl (show ((1 : Nat) : Int) + 29 = ((30 : Nat) : Int) from rfl) (fun c5 => ?_) (fun c6 => ?_)
  · refine fst1_ok X (dk rfl) rfl ?_
    exact reti_ok X hr hlk rfl (dk rfl) ⟨⟨_, LR_9, rfl⟩, rfl⟩ (Nat.le_of_ble_eq_true rfl) (Nat.le_of_ble_eq_true rfl)
  · iterate 2 refine fst1_ok X (dk rfl) rfl ?_
    obtain ⟨f7, t8, hx9, hf10⟩ := tm_open (TI.rf I).1 gb3
    refine getf_ok X flX5_21 (dk rfl) hx9 rfl ?_
    refine br_ok X (dk rfl) rfl (show ((9 : Nat) : Int) + 21 = ((30 : Nat) : Int) from rfl) (fun c11 => ?_) (fun c12 => ?_)
    · refine fst1_ok X (dk rfl) rfl ?_
      exact reti_ok X hr hlk rfl (dk rfl) ⟨⟨_, LR_9, rfl⟩, rfl⟩ (Nat.le_of_ble_eq_true rfl) (Nat.le_of_ble_eq_true rfl)
    · iterate 2 refine fst1_ok X (dk rfl) rfl ?_
      refine getf_ok X flX5_15 (dk rfl) hx9 rfl ?_
      obtain ⟨xs13, hx14, hn15, hr16⟩ := lt_open (TI.rf I).1 gl4
      refine alen7_ok X (dk rfl) hx14 hn15 ?_
      refine br_ok X (dk rfl) rfl (show ((18 : Nat) : Int) + 12 = ((30 : Nat) : Int) from rfl) (fun c17 => ?_) (fun c18 => ?_)
      · refine fst1_ok X (dk rfl) rfl ?_
        exact reti_ok X hr hlk rfl (dk rfl) ⟨⟨_, LR_9, rfl⟩, rfl⟩ (Nat.le_of_ble_eq_true rfl) (Nat.le_of_ble_eq_true rfl)
      · refine fst1_ok X (dk rfl) rfl ?_
        refine getf_ok X flX5_15 (dk rfl) hx9 rfl ?_
        refine fst1_ok X (dk rfl) rfl ?_
        refine ald7_ok X (dk rfl) hx14 c6 (by rw [hn15]; exact ix_ok (by omega) c6 c18) (fun x19 hm20 => ?_)
        refine br_ok X (dk rfl) rfl (show ((27 : Nat) : Int) + 5 = ((32 : Nat) : Int) from rfl) (fun _ => ?_) (fun q => absurd trivial q)
        exact reti_ok X hr hlk rfl (dk rfl) ⟨⟨_, (hr16 _ hm20), rfl⟩, rfl⟩ (Nat.le_of_ble_eq_true rfl) (Nat.le_of_ble_eq_true rfl)
set_option maxHeartbeats 4000000 in
theorem FZ.c5_empty (h : AH) (I : Tyg Γ h) {o0 L0 : Nat} (T0 : TermG true Γ o0 L0) : CT la D cA B0 pa yX5_empty cX5_empty 1 none (rmD 0 0 0) [.ref o0] h (WrO Γ voidP h) := by
  refine CT_of (by decide +kernel) (Nat.le_of_ble_eq_true rfl) ?_
  intro p e s m args below meth c X E hr hlk hnm
  have dk : ∀ {pc : Nat} {q : Instr × Nat}, lkd DX5_empty pc = some q → decode cX5_empty pc = .ok q := lkd_ok DX5_empty_ok
  obtain ⟨hL2, q1, gb3, gl4⟩ := id T0
  iterate 2 refine fst1_ok X (dk rfl) rfl ?_
  obtain ⟨f5, t6, hx7, hf8⟩ := tm_open (TI.rf I).1 gb3
  refine putT_ok X flX5_21 ftX5_1 rfl rfl (dk rfl) hx7 (Nat.le_of_ble_eq_true rfl) (TI.rf I) gb3 rfl (tm_zero hf8) (fun h9 J10 hx11 ho12 => ?_)
  iterate 2 refine fst1_ok X (dk rfl) rfl ?_
  refine putT_ok X flX5_25 ftX5_2 (by decide +kernel) (by decide +kernel) (dk rfl) hx11 (Nat.le_of_ble_eq_true rfl) J10 gb3 rfl tm_long00 (fun h13 J14 hx15 ho16 => ?_)
  exact retv_ok X hr hlk (dk rfl) ⟨rfl, J14⟩ (Nat.le_of_ble_eq_true rfl) (Nat.le_of_ble_eq_true rfl)
set_option maxHeartbeats 4000000 in
theorem FZ.c5_add (h : AH) (I : Tyg Γ h) {o0 L0 : Nat} (T0 : TermG true Γ o0 L0) (x1 : Int32) (hx1 : LR x1) : CT la D cA B0 pa yX5_add cX5_add 2 none (rmD 0 0 0) [.ref o0, .int (x1)] h (WrO Γ voidP h) := by
  refine CT_of (by decide +kernel) (Nat.le_of_ble_eq_true rfl) ?_
  intro p e s m args below meth c X E hr hlk hnm
  have dk : ∀ {pc : Nat} {q : Instr × Nat}, lkd DX5_add pc = some q → decode cX5_add pc = .ok q := lkd_ok DX5_add_ok
  obtain ⟨hL2, q1, gb3, gl4⟩ := id T0
  refine fst1_ok X (dk rfl) rfl ?_
  obtain ⟨f5, t6, hx7, hf8⟩ := tm_open (TI.rf I).1 gb3
  refine getf_ok X flX5_21 (dk rfl) hx7 rfl ?_
  refine br_ok X (dk rfl) rfl (show ((4 : Nat) : Int) + 38 = ((42 : Nat) : Int) from rfl) (fun c9 => ?_) (fun c10 => ?_)
  · iterate 2 refine fst1_ok X (dk rfl) rfl ?_
    refine putT_ok X flX5_25 ftX5_2 (by decide +kernel) (by decide +kernel) (dk rfl) hx7 (Nat.le_of_ble_eq_true rfl) (TI.rf I) gb3 rfl (tm_long1 hf8) (fun h11 J12 hx13 ho14 => ?_)
    exact retv_ok X hr hlk (dk rfl) ⟨rfl, J12⟩ (Nat.le_of_ble_eq_true rfl) (Nat.le_of_ble_eq_true rfl)
  · refine fst1_ok X (dk rfl) rfl ?_
    refine getf_ok X flX5_21 (dk rfl) hx7 rfl ?_
    refine fst1_ok X (dk rfl) rfl ?_
    refine getf_ok X flX5_15 (dk rfl) hx7 rfl ?_
    obtain ⟨xs15, hx16, hn17, hr18⟩ := lt_open (TI.rf I).1 gl4
    refine alen7_ok X (dk rfl) hx16 hn17 ?_
    refine br_ok X (dk rfl) rfl (show ((16 : Nat) : Int) + 26 = ((42 : Nat) : Int) from rfl) (fun c19 => ?_) (fun c20 => ?_)
    · iterate 2 refine fst1_ok X (dk rfl) rfl ?_
      refine putT_ok X flX5_25 ftX5_2 (by decide +kernel) (by decide +kernel) (dk rfl) hx7 (Nat.le_of_ble_eq_true rfl) (TI.rf I) gb3 rfl (tm_long1 hf8) (fun h21 J22 hx23 ho24 => ?_)
      have hx25 := (ho24 q1 (k_ne hx16 hx7 (by decide))).trans hx16
      exact retv_ok X hr hlk (dk rfl) ⟨rfl, J22⟩ (Nat.le_of_ble_eq_true rfl) (Nat.le_of_ble_eq_true rfl)
    · refine fst1_ok X (dk rfl) rfl ?_
      refine getf_ok X flX5_15 (dk rfl) hx7 rfl ?_
      refine fst1_ok X (dk rfl) rfl ?_
      refine getf_ok X flX5_21 (dk rfl) hx7 rfl ?_
      refine fst1_ok X (dk rfl) rfl ?_
      refine astT_ok X (dk rfl) hx16 (nI_pos (by omega)) (by rw [hn17]; exact ix_ok (by omega) (nI_pos (by omega)) c20) (TI.rf I) gl4 (letφ_set hn17 hr18 _ hx1) (fun h26 J27 ho28 => ?_)
      have hx29 := (ho28 o0 (k_ne hx7 hx16 (by decide))).trans hx7
      iterate 2 refine fst1_ok X (dk rfl) rfl ?_
      refine getf_ok X flX5_21 (dk rfl) hx29 rfl ?_
      iterate 2 refine fst1_ok X (dk rfl) rfl ?_
      refine putT_ok X flX5_21 ftX5_1 rfl rfl (dk rfl) hx29 (Nat.le_of_ble_eq_true rfl) J27 gb3 rfl (tm_more (nat_lt (by omega) c20)) (fun h30 J31 hx32 ho33 => ?_)
      refine br_ok X (dk rfl) rfl (show ((39 : Nat) : Int) + 8 = ((47 : Nat) : Int) from rfl) (fun _ => ?_) (fun q => absurd trivial q)
      exact retv_ok X hr hlk (dk rfl) ⟨rfl, J31⟩ (Nat.le_of_ble_eq_true rfl) (Nat.le_of_ble_eq_true rfl)
set_option maxHeartbeats 4000000 in
theorem FZ.c5_addRow (h : AH) (I : Tyg Γ h) {o0 L0 : Nat} (T0 : TermG true Γ o0 L0) {o1 L1 : Nat} {w1 : Bool} (T1 : TermG w1 Γ o1 L1) (x2 : Int32) (x3 : Int32) : CT la D cA B0 pa yX5_addRow cX5_addRow 5 none (rmD 1 0 0) [.ref o0, .ref o1, .int (x2), .int (x3)] h (WrO Γ voidP h) := by
  refine CT_of (by decide +kernel) (Nat.le_of_ble_eq_true rfl) ?_
  intro p e s m args below meth c X E hr hlk hnm
  have dk : ∀ {pc : Nat} {q : Instr × Nat}, lkd DX5_addRow pc = some q → decode cX5_addRow pc = .ok q := lkd_ok DX5_addRow_ok
  obtain ⟨hL2, q1, gb3, gl4⟩ := id T0
  obtain ⟨hL6, q5, gb7, gl8⟩ := id T1
  have L3 : ∀ j9 : Int32, ∀ (h13 : AH) (J14 : TI Γ h h13) (l : List (Nat × Value)), lsel l [4, 3, 1, 0] = [(4, .int (j9)), (3, .int (x3)), (1, .ref o1), (0, .ref o0)] → WR p la e (rmD 1 0 0) s m args below meth c D cA B0 5 (WrO Γ voidP h) 3 l [] h13 0 0 := by
    refine loopUp (fun j9 ih3 => ?_)
    intro h13 J14 l hl
    refine WS.sel [4, 3, 1, 0] hl ?_
    iterate 2 refine fst1_ok X (dk rfl) rfl ?_
    refine br_ok X (dk rfl) rfl (show ((6 : Nat) : Int) + 19 = ((25 : Nat) : Int) from rfl) (fun c15 => ?_) (fun c16 => ?_)
    · exact retv_ok X hr hlk (dk rfl) ⟨rfl, J14⟩ (Nat.le_of_ble_eq_true rfl) (Nat.le_of_ble_eq_true rfl)
    · iterate 3 refine fst1_ok X (dk rfl) rfl ?_
      refine callVR_ok (ci := 7) (T := TX5) (N := 3) (av := [.int _]) (r := [_]) X E (c5_letterAt _ J14.1 T1 _) lkX5_letterAt mlX5_29 lmX5_letterAt lpX5_letterAt ⟨Nat.le_of_ble_eq_true rfl, Nat.le_of_ble_eq_true rfl⟩ ⟨Nat.le_of_ble_eq_true rfl, Nat.le_of_ble_eq_true rfl⟩ rfl (tm_cell J14.1 gb7) (Nat.le_of_ble_eq_true rfl) (dk rfl) ?_
      rintro _ ⟨x17, hx18, rfl⟩
      refine callVW_ok (ci := 7) (T := TX5) (N := 3) (av := [.int _]) (r := []) X E J14 (c5_add _ J14.1 T0 _ hx18) lkX5_add mlX5_33 lmX5_add lpX5_add ⟨Nat.le_of_ble_eq_true rfl, Nat.le_of_ble_eq_true rfl⟩ ⟨Nat.le_of_ble_eq_true rfl, Nat.le_of_ble_eq_true rfl⟩ rfl (tm_cell J14.1 gb3) (Nat.le_of_ble_eq_true rfl) (dk rfl) ?_
      rintro _ h19 rfl J20
      refine fst1_ok X (dk rfl) rfl ?_
      refine br_ok X (dk rfl) rfl (show ((22 : Nat) : Int) + (-19) = ((3 : Nat) : Int) from rfl) (fun _ => ?_) (fun q => absurd trivial q)
      exact ih3 _ (nlt_of c16) h19 J20 _ rfl
  iterate 2 refine fst1_ok X (dk rfl) rfl ?_
  exact L3 _ h (TI.rf I) _ rfl
set_option maxHeartbeats 4000000 in
theorem FZ.c5_addTerm (h : AH) (I : Tyg Γ h) {o0 L0 : Nat} (T0 : TermG true Γ o0 L0) {o1 L1 : Nat} {w1 : Bool} (T1 : TermG w1 Γ o1 L1) : CT la D cA B0 pa yX5_addTerm cX5_addTerm 3 none (rmD 1 0 0) [.ref o0, .ref o1] h (WrO Γ voidP h) := by
  refine CT_of (by decide +kernel) (Nat.le_of_ble_eq_true rfl) ?_
  intro p e s m args below meth c X E hr hlk hnm
  have dk : ∀ {pc : Nat} {q : Instr × Nat}, lkd DX5_addTerm pc = some q → decode cX5_addTerm pc = .ok q := lkd_ok DX5_addTerm_ok
  obtain ⟨hL2, q1, gb3, gl4⟩ := id T0
  obtain ⟨hL6, q5, gb7, gl8⟩ := id T1
  have L25 : ∀ (h11 : AH) (J12 : TI Γ h h11) (l : List (Nat × Value)), lsel l [1, 0] = [(1, .ref o1), (0, .ref o0)] → WR p la e (rmD 1 0 0) s m args below meth c D cA B0 3 (WrO Γ voidP h) 25 l [] h11 0 0 := by
    intro h11 J12 l hl
    refine WS.sel [1, 0] hl ?_
    iterate 2 refine fst1_ok X (dk rfl) rfl ?_
    obtain ⟨f13, t14, hx15, hf16⟩ := tm_open J12.1 gb3
    refine getf_ok X flX5_25 (dk rfl) hx15 rfl ?_
    refine br_ok X (dk rfl) rfl (show ((30 : Nat) : Int) + 10 = ((40 : Nat) : Int) from rfl) (fun c17 => ?_) (fun c18 => ?_)
    · refine fst1_ok X (dk rfl) rfl ?_
      refine br_ok X (dk rfl) rfl (show ((41 : Nat) : Int) + 4 = ((45 : Nat) : Int) from rfl) (fun _ => ?_) (fun q => absurd trivial q)
      refine putT_ok X flX5_25 ftX5_2 (by decide +kernel) (by decide +kernel) (dk rfl) hx15 (Nat.le_of_ble_eq_true rfl) J12 gb3 rfl (tm_long1 hf16) (fun h19 J20 hx21 ho22 => ?_)
      exact retv_ok X hr hlk (dk rfl) ⟨rfl, J20⟩ (Nat.le_of_ble_eq_true rfl) (Nat.le_of_ble_eq_true rfl)
    · refine fst1_ok X (dk rfl) rfl ?_
      obtain ⟨f23, t24, hx25, hf26⟩ := tm_open J12.1 gb7
      refine getf_ok X flX5_25 (dk rfl) hx25 rfl ?_
      refine br_ok X (dk rfl) rfl (show ((37 : Nat) : Int) + 7 = ((44 : Nat) : Int) from rfl) (fun c27 => ?_) (fun c28 => ?_)
      · refine fst1_ok X (dk rfl) rfl ?_
        refine putT_ok X flX5_25 ftX5_2 (by decide +kernel) (by decide +kernel) (dk rfl) hx15 (Nat.le_of_ble_eq_true rfl) J12 gb3 rfl (tm_long0 hf16) (fun h29 J30 hx31 ho32 => ?_)
        exact retv_ok X hr hlk (dk rfl) ⟨rfl, J30⟩ (Nat.le_of_ble_eq_true rfl) (Nat.le_of_ble_eq_true rfl)
      · refine fst1_ok X (dk rfl) rfl ?_
        refine br_ok X (dk rfl) rfl (show ((41 : Nat) : Int) + 4 = ((45 : Nat) : Int) from rfl) (fun _ => ?_) (fun q => absurd trivial q)
        refine putT_ok X flX5_25 ftX5_2 (by decide +kernel) (by decide +kernel) (dk rfl) hx15 (Nat.le_of_ble_eq_true rfl) J12 gb3 rfl (tm_long1 hf16) (fun h33 J34 hx35 ho36 => ?_)
        exact retv_ok X hr hlk (dk rfl) ⟨rfl, J34⟩ (Nat.le_of_ble_eq_true rfl) (Nat.le_of_ble_eq_true rfl)
  have L2 : ∀ j37 : Int32, ∀ (h40 : AH) (J41 : TI Γ h h40) (l : List (Nat × Value)), lsel l [2, 1, 0] = [(2, .int (j37)), (1, .ref o1), (0, .ref o0)] → WR p la e (rmD 1 0 0) s m args below meth c D cA B0 3 (WrO Γ voidP h) 2 l [] h40 0 0 := by
    refine loopUp (fun j37 ih2 => ?_)
    intro h40 J41 l hl
    refine WS.sel [2, 1, 0] hl ?_
    iterate 2 refine fst1_ok X (dk rfl) rfl ?_
    obtain ⟨f42, t43, hx44, hf45⟩ := tm_open J41.1 gb7
    refine getf_ok X flX5_21 (dk rfl) hx44 rfl ?_
    refine br_ok X (dk rfl) rfl (show ((7 : Nat) : Int) + 18 = ((25 : Nat) : Int) from rfl) (fun c46 => ?_) (fun c47 => ?_)
    · exact L25 h40 J41 _ rfl
    · iterate 3 refine fst1_ok X (dk rfl) rfl ?_
      refine callVR_ok (ci := 7) (T := TX5) (N := 3) (av := [.int _]) (r := [_]) X E (c5_letterAt _ J41.1 T1 _) lkX5_letterAt mlX5_29 lmX5_letterAt lpX5_letterAt ⟨Nat.le_of_ble_eq_true rfl, Nat.le_of_ble_eq_true rfl⟩ ⟨Nat.le_of_ble_eq_true rfl, Nat.le_of_ble_eq_true rfl⟩ rfl (tm_cell J41.1 gb7) (Nat.le_of_ble_eq_true rfl) (dk rfl) ?_
      rintro _ ⟨x48, hx49, rfl⟩
      refine callVW_ok (ci := 7) (T := TX5) (N := 3) (av := [.int _]) (r := []) X E J41 (c5_add _ J41.1 T0 _ hx49) lkX5_add mlX5_33 lmX5_add lpX5_add ⟨Nat.le_of_ble_eq_true rfl, Nat.le_of_ble_eq_true rfl⟩ ⟨Nat.le_of_ble_eq_true rfl, Nat.le_of_ble_eq_true rfl⟩ rfl (tm_cell J41.1 gb3) (Nat.le_of_ble_eq_true rfl) (dk rfl) ?_
      rintro _ h50 rfl J51
      refine fst1_ok X (dk rfl) rfl ?_
      refine br_ok X (dk rfl) rfl (show ((22 : Nat) : Int) + (-20) = ((2 : Nat) : Int) from rfl) (fun _ => ?_) (fun q => absurd trivial q)
      exact ih2 _ (nlt_of c47) h50 J51 _ rfl
  iterate 2 refine fst1_ok X (dk rfl) rfl ?_
  exact L2 _ h (TI.rf I) _ rfl
set_option maxHeartbeats 4000000 in
theorem FZ.c5_becomeName (h : AH) (I : Tyg Γ h) {o0 L0 : Nat} (T0 : TermG true Γ o0 L0) (x1 : Int32) (hx1 : LR x1) : CT la D cA B0 pa yX5_becomeName cX5_becomeName 2 none (rmD 1 0 0) [.ref o0, .int (x1)] h (WrO Γ voidP h) := by
  refine CT_of (by decide +kernel) (Nat.le_of_ble_eq_true rfl) ?_
  intro p e s m args below meth c X E hr hlk hnm
  have dk : ∀ {pc : Nat} {q : Instr × Nat}, lkd DX5_becomeName pc = some q → decode cX5_becomeName pc = .ok q := lkd_ok DX5_becomeName_ok
  obtain ⟨hL2, q1, gb3, gl4⟩ := id T0
  refine fst1_ok X (dk rfl) rfl ?_
  refine callVW_ok (ci := 7) (T := TX5) (N := 3) (av := []) (r := []) X E (TI.rf I) (c5_empty _ (TI.rf I).1 T0) lkX5_empty mlX5_37 lmX5_empty lpX5_empty ⟨Nat.le_of_ble_eq_true rfl, Nat.le_of_ble_eq_true rfl⟩ ⟨Nat.le_of_ble_eq_true rfl, Nat.le_of_ble_eq_true rfl⟩ rfl (tm_cell (TI.rf I).1 gb3) (Nat.le_of_ble_eq_true rfl) (dk rfl) ?_
  rintro _ h5 rfl J6
  iterate 2 refine fst1_ok X (dk rfl) rfl ?_
  refine callVW_ok (ci := 7) (T := TX5) (N := 3) (av := [.int _]) (r := []) X E J6 (c5_add _ J6.1 T0 _ hx1) lkX5_add mlX5_33 lmX5_add lpX5_add ⟨Nat.le_of_ble_eq_true rfl, Nat.le_of_ble_eq_true rfl⟩ ⟨Nat.le_of_ble_eq_true rfl, Nat.le_of_ble_eq_true rfl⟩ rfl (tm_cell J6.1 gb3) (Nat.le_of_ble_eq_true rfl) (dk rfl) ?_
  rintro _ h7 rfl J8
  exact retv_ok X hr hlk (dk rfl) ⟨rfl, J8⟩ (Nat.le_of_ble_eq_true rfl) (Nat.le_of_ble_eq_true rfl)
set_option maxHeartbeats 4000000 in
theorem FZ.c5_firstPlaceOf (h : AH) (I : Tyg Γ h) {o0 L0 : Nat} {w0 : Bool} (T0 : TermG w0 Γ o0 L0) (x1 : Int32) : CT la D cA B0 pa yX5_firstPlaceOf cX5_firstPlaceOf 3 (some .int) (rmD 1 0 0) [.ref o0, .int (x1)] h (RdO iP h) := by
  refine CT_of (by decide +kernel) (Nat.le_of_ble_eq_true rfl) ?_
  intro p e s m args below meth c X E hr hlk hnm
  have dk : ∀ {pc : Nat} {q : Instr × Nat}, lkd DX5_firstPlaceOf pc = some q → decode cX5_firstPlaceOf pc = .ok q := lkd_ok DX5_firstPlaceOf_ok
  obtain ⟨hL2, q1, gb3, gl4⟩ := id T0
  have L2 : ∀ j5 : Int32, ∀ (l : List (Nat × Value)), lsel l [2, 1, 0] = [(2, .int (j5)), (1, .int (x1)), (0, .ref o0)] → WR p la e (rmD 1 0 0) s m args below meth c D cA B0 3 (RdO iP h) 2 l [] h 0 0 := by
    refine loopUp (fun j5 ih2 => ?_)
    intro l hl
    refine WS.sel [2, 1, 0] hl ?_
    iterate 2 refine fst1_ok X (dk rfl) rfl ?_
    obtain ⟨f8, t9, hx10, hf11⟩ := tm_open (TI.rf I).1 gb3
    refine getf_ok X flX5_21 (dk rfl) hx10 rfl ?_
    refine br_ok X (dk rfl) rfl (show ((7 : Nat) : Int) + 20 = ((27 : Nat) : Int) from rfl) (fun c12 => ?_) (fun c13 => ?_)
    · refine fst1_ok X (dk rfl) rfl ?_
      exact reti_ok X hr hlk rfl (dk rfl) ⟨⟨_, rfl⟩, rfl⟩ (Nat.le_of_ble_eq_true rfl) (Nat.le_of_ble_eq_true rfl)
    · iterate 2 refine fst1_ok X (dk rfl) rfl ?_
      refine callVR_ok (ci := 7) (T := TX5) (N := 3) (av := [.int _]) (r := []) X E (c5_letterAt _ (TI.rf I).1 T0 _) lkX5_letterAt mlX5_29 lmX5_letterAt lpX5_letterAt ⟨Nat.le_of_ble_eq_true rfl, Nat.le_of_ble_eq_true rfl⟩ ⟨Nat.le_of_ble_eq_true rfl, Nat.le_of_ble_eq_true rfl⟩ rfl (tm_cell (TI.rf I).1 gb3) (Nat.le_of_ble_eq_true rfl) (dk rfl) ?_
      rintro _ ⟨x14, hx15, rfl⟩
      refine fst1_ok X (dk rfl) rfl ?_
      refine br_ok X (dk rfl) rfl (show ((16 : Nat) : Int) + 5 = ((21 : Nat) : Int) from rfl) (fun c16 => ?_) (fun c17 => ?_)
      · refine fst1_ok X (dk rfl) rfl ?_
        refine br_ok X (dk rfl) rfl (show ((24 : Nat) : Int) + (-22) = ((2 : Nat) : Int) from rfl) (fun _ => ?_) (fun q => absurd trivial q)
        exact ih2 _ (nlt_of c13) _ rfl
      · refine fst1_ok X (dk rfl) rfl ?_
        exact reti_ok X hr hlk rfl (dk rfl) ⟨⟨_, rfl⟩, rfl⟩ (Nat.le_of_ble_eq_true rfl) (Nat.le_of_ble_eq_true rfl)
  iterate 2 refine fst1_ok X (dk rfl) rfl ?_
  exact L2 _ _ rfl
set_option maxHeartbeats 4000000 in
theorem FZ.c5_namesIn (h : AH) (I : Tyg Γ h) {o0 L0 : Nat} {w0 : Bool} (T0 : TermG w0 Γ o0 L0) (x1 : Int32) (x2 : Int32) : CT la D cA B0 pa yX5_namesIn cX5_namesIn 6 (some .int) (rmD 1 0 0) [.ref o0, .int (x1), .int (x2)] h (RdO iP h) := by
  refine CT_of (by decide +kernel) (Nat.le_of_ble_eq_true rfl) ?_
  intro p e s m args below meth c X E hr hlk hnm
  have dk : ∀ {pc : Nat} {q : Instr × Nat}, lkd DX5_namesIn pc = some q → decode cX5_namesIn pc = .ok q := lkd_ok DX5_namesIn_ok
  obtain ⟨hL2, q1, gb3, gl4⟩ := id T0
  have L5 : ∀ j5 : Int32, ∀ (y6 : Int32) (l : List (Nat × Value)), lsel l [4, 3, 2, 0] = [(4, .int (j5)), (3, .int (y6)), (2, .int (x2)), (0, .ref o0)] → WR p la e (rmD 1 0 0) s m args below meth c D cA B0 6 (RdO iP h) 5 l [] h 0 0 := by
    refine loopUp (fun j5 ih5 => ?_)
    intro y6 l hl
    refine WS.sel [4, 3, 2, 0] hl ?_
    iterate 2 refine fst1_ok X (dk rfl) rfl ?_
    refine br_ok X (dk rfl) rfl (show ((8 : Nat) : Int) + 32 = ((40 : Nat) : Int) from rfl) (fun c9 => ?_) (fun c10 => ?_)
    · refine fst1_ok X (dk rfl) rfl ?_
      exact reti_ok X hr hlk rfl (dk rfl) ⟨⟨_, rfl⟩, rfl⟩ (Nat.le_of_ble_eq_true rfl) (Nat.le_of_ble_eq_true rfl)
    · iterate 2 refine fst1_ok X (dk rfl) rfl ?_
      refine callVR_ok (ci := 7) (T := TX5) (N := 3) (av := [.int _]) (r := []) X E (c5_letterAt _ (TI.rf I).1 T0 _) lkX5_letterAt mlX5_29 lmX5_letterAt lpX5_letterAt ⟨Nat.le_of_ble_eq_true rfl, Nat.le_of_ble_eq_true rfl⟩ ⟨Nat.le_of_ble_eq_true rfl, Nat.le_of_ble_eq_true rfl⟩ rfl (tm_cell (TI.rf I).1 gb3) (Nat.le_of_ble_eq_true rfl) (dk rfl) ?_
      rintro _ ⟨x11, hx12, rfl⟩
      iterate 2 refine fst1_ok X (dk rfl) rfl ?_
      refine callNR_ok (av := [.int _]) (r := []) X E (c6_isName _ (TI.rf I).1 _) lkX6_isName mnX5_44 lsX6_isName ⟨Nat.le_of_ble_eq_true rfl, Nat.le_of_ble_eq_true rfl⟩ ⟨Nat.le_of_ble_eq_true rfl, Nat.le_of_ble_eq_true rfl⟩ (Nat.le_of_ble_eq_true rfl) (dk rfl) ?_
      rintro _ ⟨b13, rfl, hb14, hn15⟩
      refine br_ok X (dk rfl) rfl (show ((24 : Nat) : Int) + 10 = ((34 : Nat) : Int) from rfl) (fun c16 => ?_) (fun c17 => ?_)
      · refine fst1_ok X (dk rfl) rfl ?_
        refine br_ok X (dk rfl) rfl (show ((37 : Nat) : Int) + (-32) = ((5 : Nat) : Int) from rfl) (fun _ => ?_) (fun q => absurd trivial q)
        exact ih5 _ (nlt_of c10) _ _ rfl
      · iterate 7 refine fst1_ok X (dk rfl) rfl ?_
        refine br_ok X (dk rfl) rfl (show ((37 : Nat) : Int) + (-32) = ((5 : Nat) : Int) from rfl) (fun _ => ?_) (fun q => absurd trivial q)
        exact ih5 _ (nlt_of c10) _ _ rfl
  iterate 4 refine fst1_ok X (dk rfl) rfl ?_
  exact L5 _ _ _ rfl
set_option maxHeartbeats 4000000 in
theorem FZ.c5_becomePlainOf (h : AH) (I : Tyg Γ h) {o0 L0 : Nat} (T0 : TermG true Γ o0 L0) {o1 L1 : Nat} {w1 : Bool} (T1 : TermG w1 Γ o1 L1) : CT la D cA B0 pa yX5_becomePlainOf cX5_becomePlainOf 4 none (rmD 2 0 0) [.ref o0, .ref o1] h (WrO Γ voidP h) := by
  refine CT_of (by decide +kernel) (Nat.le_of_ble_eq_true rfl) ?_
  intro p e s m args below meth c X E hr hlk hnm
  have dk : ∀ {pc : Nat} {q : Instr × Nat}, lkd DX5_becomePlainOf pc = some q → decode cX5_becomePlainOf pc = .ok q := lkd_ok DX5_becomePlainOf_ok
  obtain ⟨hL2, q1, gb3, gl4⟩ := id T0
  obtain ⟨hL6, q5, gb7, gl8⟩ := id T1
  have L6 : ∀ j9 : Int32, ∀ (h12 : AH) (J13 : TI Γ h h12) (l : List (Nat × Value)), lsel l [2, 1, 0] = [(2, .int (j9)), (1, .ref o1), (0, .ref o0)] → WR p la e (rmD 2 0 0) s m args below meth c D cA B0 4 (WrO Γ voidP h) 6 l [] h12 0 0 := by
    refine loopUp (fun j9 ih6 => ?_)
    intro h12 J13 l hl
    refine WS.sel [2, 1, 0] hl ?_
    iterate 2 refine fst1_ok X (dk rfl) rfl ?_
    obtain ⟨f14, t15, hx16, hf17⟩ := tm_open J13.1 gb7
    refine getf_ok X flX5_21 (dk rfl) hx16 rfl ?_
    refine br_ok X (dk rfl) rfl (show ((11 : Nat) : Int) + 43 = ((54 : Nat) : Int) from rfl) (fun c18 => ?_) (fun c19 => ?_)
    · exact retv_ok X hr hlk (dk rfl) ⟨rfl, J13⟩ (Nat.le_of_ble_eq_true rfl) (Nat.le_of_ble_eq_true rfl)
    · iterate 2 refine fst1_ok X (dk rfl) rfl ?_
      refine callVR_ok (ci := 7) (T := TX5) (N := 3) (av := [.int _]) (r := []) X E (c5_letterAt _ J13.1 T1 _) lkX5_letterAt mlX5_29 lmX5_letterAt lpX5_letterAt ⟨Nat.le_of_ble_eq_true rfl, Nat.le_of_ble_eq_true rfl⟩ ⟨Nat.le_of_ble_eq_true rfl, Nat.le_of_ble_eq_true rfl⟩ rfl (tm_cell J13.1 gb7) (Nat.le_of_ble_eq_true rfl) (dk rfl) ?_
      rintro _ ⟨x20, hx21, rfl⟩
      iterate 3 refine fst1_ok X (dk rfl) rfl ?_
      refine callNR_ok (av := [.int _]) (r := [_]) X E (c6_isName _ J13.1 _) lkX6_isName mnX5_44 lsX6_isName ⟨Nat.le_of_ble_eq_true rfl, Nat.le_of_ble_eq_true rfl⟩ ⟨Nat.le_of_ble_eq_true rfl, Nat.le_of_ble_eq_true rfl⟩ (Nat.le_of_ble_eq_true rfl) (dk rfl) ?_
      rintro _ ⟨b22, rfl, hb23, hn24⟩
      refine br_ok X (dk rfl) rfl (show ((25 : Nat) : Int) + 19 = ((44 : Nat) : Int) from rfl) (fun c25 => ?_) (fun c26 => ?_)
      · refine fst1_ok X (dk rfl) rfl ?_
        refine callVW_ok (ci := 7) (T := TX5) (N := 3) (av := [.int _]) (r := []) X E J13 (c5_add _ J13.1 T0 _ hx21) lkX5_add mlX5_33 lmX5_add lpX5_add ⟨Nat.le_of_ble_eq_true rfl, Nat.le_of_ble_eq_true rfl⟩ ⟨Nat.le_of_ble_eq_true rfl, Nat.le_of_ble_eq_true rfl⟩ rfl (tm_cell J13.1 gb3) (Nat.le_of_ble_eq_true rfl) (dk rfl) ?_
        rintro _ h27 rfl J28
        refine fst1_ok X (dk rfl) rfl ?_
        refine br_ok X (dk rfl) rfl (show ((51 : Nat) : Int) + (-45) = ((6 : Nat) : Int) from rfl) (fun _ => ?_) (fun q => absurd trivial q)
        exact ih6 _ (nlt_of c19) h27 J28 _ rfl
      · iterate 4 refine fst1_ok X (dk rfl) rfl ?_
        refine callVR_ok (ci := 7) (T := TX5) (N := 3) (av := [.int _]) (r := [_, _, _]) X E (c5_firstPlaceOf _ J13.1 T1 _) lkX5_firstPlaceOf mlX5_48 lmX5_firstPlaceOf lpX5_firstPlaceOf ⟨Nat.le_of_ble_eq_true rfl, Nat.le_of_ble_eq_true rfl⟩ ⟨Nat.le_of_ble_eq_true rfl, Nat.le_of_ble_eq_true rfl⟩ rfl (tm_cell J13.1 gb7) (Nat.le_of_ble_eq_true rfl) (dk rfl) ?_
        rintro _ ⟨x29, rfl⟩
        refine callVR_ok (ci := 7) (T := TX5) (N := 3) (av := [.int _, .int _]) (r := [_]) X E (c5_namesIn _ J13.1 T1 _ _) lkX5_namesIn mlX5_51 lmX5_namesIn lpX5_namesIn ⟨Nat.le_of_ble_eq_true rfl, Nat.le_of_ble_eq_true rfl⟩ ⟨Nat.le_of_ble_eq_true rfl, Nat.le_of_ble_eq_true rfl⟩ rfl (tm_cell J13.1 gb7) (Nat.le_of_ble_eq_true rfl) (dk rfl) ?_
        rintro _ ⟨x30, rfl⟩
        refine callSR_ok (av := [.int _]) (r := [_]) X E (c_bitCount _ _) lkJ6_bitCount_0f7a4 mlX5_54 lsJ6_bitCount_0f7a4 ⟨Nat.le_of_ble_eq_true rfl, Nat.le_of_ble_eq_true rfl⟩ ⟨Nat.le_of_ble_eq_true rfl, Nat.le_of_ble_eq_true rfl⟩ (Nat.le_of_ble_eq_true rfl) (dk rfl) ?_
        rintro _ rfl
        refine br_ok X (dk rfl) rfl (show ((41 : Nat) : Int) + 4 = ((45 : Nat) : Int) from rfl) (fun _ => ?_) (fun q => absurd trivial q)
        refine callVW_ok (ci := 7) (T := TX5) (N := 3) (av := [.int _]) (r := []) X E J13 (c5_add _ J13.1 T0 _ (LR_bc _)) lkX5_add mlX5_33 lmX5_add lpX5_add ⟨Nat.le_of_ble_eq_true rfl, Nat.le_of_ble_eq_true rfl⟩ ⟨Nat.le_of_ble_eq_true rfl, Nat.le_of_ble_eq_true rfl⟩ rfl (tm_cell J13.1 gb3) (Nat.le_of_ble_eq_true rfl) (dk rfl) ?_
        rintro _ h31 rfl J32
        refine fst1_ok X (dk rfl) rfl ?_
        refine br_ok X (dk rfl) rfl (show ((51 : Nat) : Int) + (-45) = ((6 : Nat) : Int) from rfl) (fun _ => ?_) (fun q => absurd trivial q)
        exact ih6 _ (nlt_of c19) h31 J32 _ rfl
  refine fst1_ok X (dk rfl) rfl ?_
  refine callVW_ok (ci := 7) (T := TX5) (N := 3) (av := []) (r := []) X E (TI.rf I) (c5_empty _ (TI.rf I).1 T0) lkX5_empty mlX5_37 lmX5_empty lpX5_empty ⟨Nat.le_of_ble_eq_true rfl, Nat.le_of_ble_eq_true rfl⟩ ⟨Nat.le_of_ble_eq_true rfl, Nat.le_of_ble_eq_true rfl⟩ rfl (tm_cell (TI.rf I).1 gb3) (Nat.le_of_ble_eq_true rfl) (dk rfl) ?_
  rintro _ h33 rfl J34
  iterate 2 refine fst1_ok X (dk rfl) rfl ?_
  exact L6 _ h33 J34 _ rfl
set_option maxHeartbeats 4000000 in
theorem FZ.c5_endOf (h : AH) (I : Tyg Γ h) {o0 L0 : Nat} {w0 : Bool} (T0 : TermG w0 Γ o0 L0) (x1 : Int32) : CT la D cA B0 pa yX5_endOf cX5_endOf 4 (some .int) (rmD 1 0 0) [.ref o0, .int (x1)] h (RdO iP h) := by
  refine CT_of (by decide +kernel) (Nat.le_of_ble_eq_true rfl) ?_
  intro p e s m args below meth c X E hr hlk hnm
  have dk : ∀ {pc : Nat} {q : Instr × Nat}, lkd DX5_endOf pc = some q → decode cX5_endOf pc = .ok q := lkd_ok DX5_endOf_ok
  obtain ⟨hL2, q1, gb3, gl4⟩ := id T0
  have L4 : ∀ j5 : Int32, ∀ (y6 : Int32) (l : List (Nat × Value)), lsel l [3, 2, 0] = [(3, .int (j5)), (2, .int (y6)), (0, .ref o0)] → WR p la e (rmD 1 0 0) s m args below meth c D cA B0 4 (RdO iP h) 4 l [] h 0 0 := by
    refine loopUp (fun j5 ih4 => ?_)
    intro y6 l hl
    refine WS.sel [3, 2, 0] hl ?_
    iterate 2 refine fst1_ok X (dk rfl) rfl ?_
    obtain ⟨f8, t9, hx10, hf11⟩ := tm_open (TI.rf I).1 gb3
    refine getf_ok X flX5_21 (dk rfl) hx10 rfl ?_
    refine br_ok X (dk rfl) rfl (show ((9 : Nat) : Int) + 26 = ((35 : Nat) : Int) from rfl) (fun c12 => ?_) (fun c13 => ?_)
    · refine fst1_ok X (dk rfl) rfl ?_
      exact reti_ok X hr hlk rfl (dk rfl) ⟨⟨_, rfl⟩, rfl⟩ (Nat.le_of_ble_eq_true rfl) (Nat.le_of_ble_eq_true rfl)
    · refine fst1_ok X (dk rfl) rfl ?_
      refine br_ok X (dk rfl) rfl (show ((13 : Nat) : Int) + 22 = ((35 : Nat) : Int) from rfl) (fun c14 => ?_) (fun c15 => ?_)
      · refine fst1_ok X (dk rfl) rfl ?_
        exact reti_ok X hr hlk rfl (dk rfl) ⟨⟨_, rfl⟩, rfl⟩ (Nat.le_of_ble_eq_true rfl) (Nat.le_of_ble_eq_true rfl)
      · iterate 3 refine fst1_ok X (dk rfl) rfl ?_
        refine callVR_ok (ci := 7) (T := TX5) (N := 3) (av := [.int _]) (r := [_]) X E (c5_letterAt _ (TI.rf I).1 T0 _) lkX5_letterAt mlX5_29 lmX5_letterAt lpX5_letterAt ⟨Nat.le_of_ble_eq_true rfl, Nat.le_of_ble_eq_true rfl⟩ ⟨Nat.le_of_ble_eq_true rfl, Nat.le_of_ble_eq_true rfl⟩ rfl (tm_cell (TI.rf I).1 gb3) (Nat.le_of_ble_eq_true rfl) (dk rfl) ?_
        rintro _ ⟨x16, hx17, rfl⟩
        refine callNR_ok (av := [.int _]) (r := [_]) X E (c6_partsOf _ (TI.rf I).1 _) lkX6_partsOf mnX5_59 lsX6_partsOf ⟨Nat.le_of_ble_eq_true rfl, Nat.le_of_ble_eq_true rfl⟩ ⟨Nat.le_of_ble_eq_true rfl, Nat.le_of_ble_eq_true rfl⟩ (Nat.le_of_ble_eq_true rfl) (dk rfl) ?_
        rintro _ ⟨n18, hn19, rfl⟩
        iterate 5 refine fst1_ok X (dk rfl) rfl ?_
        refine br_ok X (dk rfl) rfl (show ((32 : Nat) : Int) + (-28) = ((4 : Nat) : Int) from rfl) (fun _ => ?_) (fun q => absurd trivial q)
        exact ih4 _ (nlt_of c13) _ _ rfl
  iterate 4 refine fst1_ok X (dk rfl) rfl ?_
  exact L4 _ _ _ rfl
set_option maxHeartbeats 4000000 in
theorem FZ.c5_closedBehind (h : AH) (I : Tyg Γ h) {o0 L0 : Nat} {w0 : Bool} (T0 : TermG w0 Γ o0 L0) (x1 : Int32) : CT la D cA B0 pa yX5_closedBehind cX5_closedBehind 4 (some .int) (rmD 2 0 0) [.ref o0, .int (x1)] h (RdO (nP x1.toInt.toNat) h) := by
  refine CT_of (by decide +kernel) (Nat.le_of_ble_eq_true rfl) ?_
  intro p e s m args below meth c X E hr hlk hnm
  have dk : ∀ {pc : Nat} {q : Instr × Nat}, lkd DX5_closedBehind pc = some q → decode cX5_closedBehind pc = .ok q := lkd_ok DX5_closedBehind_ok
  have hx1 : x1.toInt.toNat < 2 ^ 31 := by have := Int32.toInt_lt x1; omega
  obtain ⟨hL2, q1, gb3, gl4⟩ := id T0
  have L4 : ∀ j5 : Nat, j5 ≤ x1.toInt.toNat → ∀ (y6 : Nat) (hy6 : y6 ≤ j5) (l : List (Nat × Value)), lsel l [3, 2, 1, 0] = [(3, vI j5), (2, vI y6), (1, .int (x1)), (0, .ref o0)] → WR p la e (rmD 2 0 0) s m args below meth c D cA B0 4 (RdO (nP x1.toInt.toNat) h) 4 l [] h 0 0 := by
    refine loopN (fun j5 hj5 ih4 => ?_)
    intro y6 hy6 l hl
    refine WS.sel [3, 2, 1, 0] hl ?_
    iterate 2 refine fst1_ok X (dk rfl) rfl ?_
    refine br_ok X (dk rfl) rfl (show ((6 : Nat) : Int) + 23 = ((29 : Nat) : Int) from rfl) (fun c9 => ?_) (fun c10 => ?_)
    · refine fst1_ok X (dk rfl) rfl ?_
      exact reti_ok X hr hlk rfl (dk rfl) ⟨⟨_, (by omega), rfl⟩, rfl⟩ (Nat.le_of_ble_eq_true rfl) (Nat.le_of_ble_eq_true rfl)
    · iterate 2 refine fst1_ok X (dk rfl) rfl ?_
      refine callVR_ok (ci := 7) (T := TX5) (N := 3) (av := [.int _]) (r := []) X E (c5_endOf _ (TI.rf I).1 T0 _) lkX5_endOf mlX5_62 lmX5_endOf lpX5_endOf ⟨Nat.le_of_ble_eq_true rfl, Nat.le_of_ble_eq_true rfl⟩ ⟨Nat.le_of_ble_eq_true rfl, Nat.le_of_ble_eq_true rfl⟩ rfl (tm_cell (TI.rf I).1 gb3) (Nat.le_of_ble_eq_true rfl) (dk rfl) ?_
      rintro _ ⟨x11, rfl⟩
      iterate 3 refine fst1_ok X (dk rfl) rfl ?_
      refine br_ok X (dk rfl) rfl (show ((17 : Nat) : Int) + 6 = ((23 : Nat) : Int) from rfl) (fun c12 => ?_) (fun c13 => ?_)
      · refine fst1_ok X (dk rfl) rfl ?_
        refine br_ok X (dk rfl) rfl (show ((26 : Nat) : Int) + (-22) = ((4 : Nat) : Int) from rfl) (fun _ => ?_) (fun q => absurd trivial q)
        exact ih4 (natx_lt (by omega) c10) y6 (by omega) _ (by rw [← vI_succ j5]; rfl)
      · iterate 2 refine fst1_ok X (dk rfl) rfl ?_
        refine br_ok X (dk rfl) rfl (show ((26 : Nat) : Int) + (-22) = ((4 : Nat) : Int) from rfl) (fun _ => ?_) (fun q => absurd trivial q)
        exact ih4 (natx_lt (by omega) c10) (y6 + 1) (by omega) _ (by rw [← vI_succ j5, ← vI_succ y6]; rfl)
  iterate 4 refine fst1_ok X (dk rfl) rfl ?_
  exact L4 0 (by omega) 0 (Nat.zero_le _) _ rfl
set_option maxHeartbeats 4000000 in
theorem FZ.c5_levels (h : AH) (I : Tyg Γ h) {o0 L0 : Nat} {w0 : Bool} (T0 : TermG w0 Γ o0 L0) : CT la D cA B0 pa yX5_levels cX5_levels 4 (some .int) (rmD 3 0 0) [.ref o0] h (RdO iP h) := by
  refine CT_of (by decide +kernel) (Nat.le_of_ble_eq_true rfl) ?_
  intro p e s m args below meth c X E hr hlk hnm
  have dk : ∀ {pc : Nat} {q : Instr × Nat}, lkd DX5_levels pc = some q → decode cX5_levels pc = .ok q := lkd_ok DX5_levels_ok
  obtain ⟨hL2, q1, gb3, gl4⟩ := id T0
  have L6 : ∀ j5 : Int32, ∀ (y6 : Int32) (y7 : Int32) (l : List (Nat × Value)), lsel l [3, 2, 1, 0] = [(3, .int (j5)), (2, .int (y6)), (1, .int (y7)), (0, .ref o0)] → WR p la e (rmD 3 0 0) s m args below meth c D cA B0 4 (RdO iP h) 6 l [] h 0 0 := by
    refine loopUp (fun j5 ih6 => ?_)
    intro y6 y7 l hl
    refine WS.sel [3, 2, 1, 0] hl ?_
    iterate 2 refine fst1_ok X (dk rfl) rfl ?_
    obtain ⟨f9, t10, hx11, hf12⟩ := tm_open (TI.rf I).1 gb3
    refine getf_ok X flX5_21 (dk rfl) hx11 rfl ?_
    refine br_ok X (dk rfl) rfl (show ((11 : Nat) : Int) + 39 = ((50 : Nat) : Int) from rfl) (fun c13 => ?_) (fun c14 => ?_)
    · refine fst1_ok X (dk rfl) rfl ?_
      exact reti_ok X hr hlk rfl (dk rfl) ⟨⟨_, rfl⟩, rfl⟩ (Nat.le_of_ble_eq_true rfl) (Nat.le_of_ble_eq_true rfl)
    · iterate 2 refine fst1_ok X (dk rfl) rfl ?_
      refine mmaxi_ok X mlX5_9 (dk rfl) (by decide) (Nat.le_of_ble_eq_true rfl) (Nat.le_of_ble_eq_true rfl) (Nat.le_of_ble_eq_true rfl) (fun mx15 => ?_)
      iterate 4 refine fst1_ok X (dk rfl) rfl ?_
      refine callVR_ok (ci := 7) (T := TX5) (N := 3) (av := [.int _]) (r := [_]) X E (c5_letterAt _ (TI.rf I).1 T0 _) lkX5_letterAt mlX5_29 lmX5_letterAt lpX5_letterAt ⟨Nat.le_of_ble_eq_true rfl, Nat.le_of_ble_eq_true rfl⟩ ⟨Nat.le_of_ble_eq_true rfl, Nat.le_of_ble_eq_true rfl⟩ rfl (tm_cell (TI.rf I).1 gb3) (Nat.le_of_ble_eq_true rfl) (dk rfl) ?_
      rintro _ ⟨x16, hx17, rfl⟩
      refine callNR_ok (av := [.int _]) (r := [_]) X E (c6_partsOf _ (TI.rf I).1 _) lkX6_partsOf mnX5_59 lsX6_partsOf ⟨Nat.le_of_ble_eq_true rfl, Nat.le_of_ble_eq_true rfl⟩ ⟨Nat.le_of_ble_eq_true rfl, Nat.le_of_ble_eq_true rfl⟩ (Nat.le_of_ble_eq_true rfl) (dk rfl) ?_
      rintro _ ⟨n18, hn19, rfl⟩
      refine br_ok X (dk rfl) rfl (show ((29 : Nat) : Int) + 7 = ((36 : Nat) : Int) from rfl) (fun c20 => ?_) (fun c21 => ?_)
      · iterate 2 refine fst1_ok X (dk rfl) rfl ?_
        refine callVR_ok (ci := 7) (T := TX5) (N := 3) (av := [.int _]) (r := [_]) X E (c5_closedBehind _ (TI.rf I).1 T0 _) lkX5_closedBehind mlX5_65 lmX5_closedBehind lpX5_closedBehind ⟨Nat.le_of_ble_eq_true rfl, Nat.le_of_ble_eq_true rfl⟩ ⟨Nat.le_of_ble_eq_true rfl, Nat.le_of_ble_eq_true rfl⟩ rfl (tm_cell (TI.rf I).1 gb3) (Nat.le_of_ble_eq_true rfl) (dk rfl) ?_
        rintro _ ⟨n22, hn23, rfl⟩
        iterate 4 refine fst1_ok X (dk rfl) rfl ?_
        refine br_ok X (dk rfl) rfl (show ((47 : Nat) : Int) + (-41) = ((6 : Nat) : Int) from rfl) (fun _ => ?_) (fun q => absurd trivial q)
        exact ih6 _ (nlt_of c14) _ _ _ rfl
      · refine fst1_ok X (dk rfl) rfl ?_
        refine br_ok X (dk rfl) rfl (show ((33 : Nat) : Int) + 9 = ((42 : Nat) : Int) from rfl) (fun _ => ?_) (fun q => absurd trivial q)
        iterate 3 refine fst1_ok X (dk rfl) rfl ?_
        refine br_ok X (dk rfl) rfl (show ((47 : Nat) : Int) + (-41) = ((6 : Nat) : Int) from rfl) (fun _ => ?_) (fun q => absurd trivial q)
        exact ih6 _ (nlt_of c14) _ _ _ rfl
  iterate 6 refine fst1_ok X (dk rfl) rfl ?_
  exact L6 _ _ _ _ rfl
set_option maxHeartbeats 4000000 in
theorem FZ.c5_isLikeAt (h : AH) (I : Tyg Γ h) {o0 L0 : Nat} {w0 : Bool} (T0 : TermG w0 Γ o0 L0) (x1 : Int32) {o2 L2 : Nat} {w2 : Bool} (T2 : TermG w2 Γ o2 L2) (x3 : Int32) : CT la D cA B0 pa yX5_isLikeAt cX5_isLikeAt 7 (some .boolean) (rmD 1 0 0) [.ref o0, .int (x1), .ref o2, .int (x3)] h (RdO bP h) := by
  refine CT_of (by decide +kernel) (Nat.le_of_ble_eq_true rfl) ?_
  intro p e s m args below meth c X E hr hlk hnm
  have dk : ∀ {pc : Nat} {q : Instr × Nat}, lkd DX5_isLikeAt pc = some q → decode cX5_isLikeAt pc = .ok q := lkd_ok DX5_isLikeAt_ok
  obtain ⟨hL2, q1, gb3, gl4⟩ := id T0
  obtain ⟨hL6, q5, gb7, gl8⟩ := id T2
  have L6 : ∀ j9 : Int32, ∀ (y10 : Int32) (l : List (Nat × Value)), lsel l [5, 4, 3, 2, 1, 0] = [(5, .int (j9)), (4, .int (y10)), (3, .int (x3)), (2, .ref o2), (1, .int (x1)), (0, .ref o0)] → WR p la e (rmD 1 0 0) s m args below meth c D cA B0 7 (RdO bP h) 6 l [] h 0 0 := by
    refine loopUp (fun j9 ih6 => ?_)
    intro y10 l hl
    refine WS.sel [5, 4, 3, 2, 1, 0] hl ?_
    refine fst1_ok X (dk rfl) rfl ?_
    refine br_ok X (dk rfl) rfl (show ((8 : Nat) : Int) + 63 = ((71 : Nat) : Int) from rfl) (fun c15 => ?_) (fun c16 => ?_)
    · refine fst1_ok X (dk rfl) rfl ?_
      refine br_ok X (dk rfl) rfl (show ((73 : Nat) : Int) + 7 = ((80 : Nat) : Int) from rfl) (fun c17 => ?_) (fun c18 => ?_)
      · refine fst1_ok X (dk rfl) rfl ?_
        exact reti_ok X hr hlk (bI_n false) (dk rfl) ⟨⟨false, rfl⟩, rfl⟩ (Nat.le_of_ble_eq_true rfl) (Nat.le_of_ble_eq_true rfl)
      · refine fst1_ok X (dk rfl) rfl ?_
        refine br_ok X (dk rfl) rfl (show ((77 : Nat) : Int) + 4 = ((81 : Nat) : Int) from rfl) (fun _ => ?_) (fun q => absurd trivial q)
        exact reti_ok X hr hlk (bI_n true) (dk rfl) ⟨⟨true, rfl⟩, rfl⟩ (Nat.le_of_ble_eq_true rfl) (Nat.le_of_ble_eq_true rfl)
    · iterate 2 refine fst1_ok X (dk rfl) rfl ?_
      obtain ⟨f19, t20, hx21, hf22⟩ := tm_open (TI.rf I).1 gb3
      refine getf_ok X flX5_15 (dk rfl) hx21 rfl ?_
      obtain ⟨xs23, hx24, hn25, hr26⟩ := lt_open (TI.rf I).1 gl4
      refine alen7_ok X (dk rfl) hx24 hn25 ?_
      refine br_ok X (dk rfl) rfl (show ((18 : Nat) : Int) + 53 = ((71 : Nat) : Int) from rfl) (fun c27 => ?_) (fun c28 => ?_)
      · refine fst1_ok X (dk rfl) rfl ?_
        refine br_ok X (dk rfl) rfl (show ((73 : Nat) : Int) + 7 = ((80 : Nat) : Int) from rfl) (fun c29 => ?_) (fun c30 => ?_)
        · refine fst1_ok X (dk rfl) rfl ?_
          exact reti_ok X hr hlk (bI_n false) (dk rfl) ⟨⟨false, rfl⟩, rfl⟩ (Nat.le_of_ble_eq_true rfl) (Nat.le_of_ble_eq_true rfl)
        · refine fst1_ok X (dk rfl) rfl ?_
          refine br_ok X (dk rfl) rfl (show ((77 : Nat) : Int) + 4 = ((81 : Nat) : Int) from rfl) (fun _ => ?_) (fun q => absurd trivial q)
          exact reti_ok X hr hlk (bI_n true) (dk rfl) ⟨⟨true, rfl⟩, rfl⟩ (Nat.le_of_ble_eq_true rfl) (Nat.le_of_ble_eq_true rfl)
      · iterate 4 refine fst1_ok X (dk rfl) rfl ?_
        refine callVR_ok (ci := 7) (T := TX5) (N := 3) (av := [.int _]) (r := []) X E (c5_letterAt _ (TI.rf I).1 T0 _) lkX5_letterAt mlX5_29 lmX5_letterAt lpX5_letterAt ⟨Nat.le_of_ble_eq_true rfl, Nat.le_of_ble_eq_true rfl⟩ ⟨Nat.le_of_ble_eq_true rfl, Nat.le_of_ble_eq_true rfl⟩ rfl (tm_cell (TI.rf I).1 gb3) (Nat.le_of_ble_eq_true rfl) (dk rfl) ?_
        rintro _ ⟨x31, hx32, rfl⟩
        iterate 3 refine fst1_ok X (dk rfl) rfl ?_
        refine br_ok X (dk rfl) rfl (show ((35 : Nat) : Int) + 16 = ((51 : Nat) : Int) from rfl) (fun c33 => ?_) (fun c34 => ?_)
        · refine fst1_ok X (dk rfl) rfl ?_
          exact reti_ok X hr hlk (bI_n false) (dk rfl) ⟨⟨false, rfl⟩, rfl⟩ (Nat.le_of_ble_eq_true rfl) (Nat.le_of_ble_eq_true rfl)
        · iterate 5 refine fst1_ok X (dk rfl) rfl ?_
          refine callVR_ok (ci := 7) (T := TX5) (N := 3) (av := [.int _]) (r := [_]) X E (c5_letterAt _ (TI.rf I).1 T2 _) lkX5_letterAt mlX5_29 lmX5_letterAt lpX5_letterAt ⟨Nat.le_of_ble_eq_true rfl, Nat.le_of_ble_eq_true rfl⟩ ⟨Nat.le_of_ble_eq_true rfl, Nat.le_of_ble_eq_true rfl⟩ rfl (tm_cell (TI.rf I).1 gb7) (Nat.le_of_ble_eq_true rfl) (dk rfl) ?_
          rintro _ ⟨x35, hx36, rfl⟩
          refine br_ok X (dk rfl) rfl (show ((48 : Nat) : Int) + 5 = ((53 : Nat) : Int) from rfl) (fun c37 => ?_) (fun c38 => ?_)
          · iterate 2 refine fst1_ok X (dk rfl) rfl ?_
            refine callNR_ok (av := [.int _]) (r := [_]) X E (c6_partsOf _ (TI.rf I).1 _) lkX6_partsOf mnX5_59 lsX6_partsOf ⟨Nat.le_of_ble_eq_true rfl, Nat.le_of_ble_eq_true rfl⟩ ⟨Nat.le_of_ble_eq_true rfl, Nat.le_of_ble_eq_true rfl⟩ (Nat.le_of_ble_eq_true rfl) (dk rfl) ?_
            rintro _ ⟨n39, hn40, rfl⟩
            iterate 5 refine fst1_ok X (dk rfl) rfl ?_
            refine br_ok X (dk rfl) rfl (show ((68 : Nat) : Int) + (-62) = ((6 : Nat) : Int) from rfl) (fun _ => ?_) (fun q => absurd trivial q)
            exact ih6 _ (nlt_of c28) _ _ rfl
          · refine fst1_ok X (dk rfl) rfl ?_
            exact reti_ok X hr hlk (bI_n false) (dk rfl) ⟨⟨false, rfl⟩, rfl⟩ (Nat.le_of_ble_eq_true rfl) (Nat.le_of_ble_eq_true rfl)
  iterate 4 refine fst1_ok X (dk rfl) rfl ?_
  exact L6 _ _ _ rfl
set_option maxHeartbeats 4000000 in
theorem FZ.c5_isLike (h : AH) (I : Tyg Γ h) {o0 L0 : Nat} {w0 : Bool} (T0 : TermG w0 Γ o0 L0) {o1 L1 : Nat} {w1 : Bool} (T1 : TermG w1 Γ o1 L1) : CT la D cA B0 pa yX5_isLike cX5_isLike 2 (some .boolean) (rmD 2 0 0) [.ref o0, .ref o1] h (RdO bP h) := by
  refine CT_of (by decide +kernel) (Nat.le_of_ble_eq_true rfl) ?_
  intro p e s m args below meth c X E hr hlk hnm
  have dk : ∀ {pc : Nat} {q : Instr × Nat}, lkd DX5_isLike pc = some q → decode cX5_isLike pc = .ok q := lkd_ok DX5_isLike_ok
  obtain ⟨hL2, q1, gb3, gl4⟩ := id T0
  obtain ⟨hL6, q5, gb7, gl8⟩ := id T1
  iterate 4 refine fst1_ok X (dk rfl) rfl ?_
  refine callVR_ok (ci := 7) (T := TX5) (N := 3) (av := [.int _, .ref _, .int _]) (r := []) X E (c5_isLikeAt _ (TI.rf I).1 T0 _ T1 _) lkX5_isLikeAt mlX5_68 lmX5_isLikeAt lpX5_isLikeAt ⟨Nat.le_of_ble_eq_true rfl, Nat.le_of_ble_eq_true rfl⟩ ⟨Nat.le_of_ble_eq_true rfl, Nat.le_of_ble_eq_true rfl⟩ rfl (tm_cell (TI.rf I).1 gb3) (Nat.le_of_ble_eq_true rfl) (dk rfl) ?_
  rintro _ ⟨b9, rfl⟩
  exact reti_ok X hr hlk (bI_n b9) (dk rfl) ⟨⟨b9, rfl⟩, rfl⟩ (Nat.le_of_ble_eq_true rfl) (Nat.le_of_ble_eq_true rfl)
set_option maxHeartbeats 4000000 in
theorem FZ.c5_firstLike (h : AH) (I : Tyg Γ h) {o0 L0 : Nat} {w0 : Bool} (T0 : TermG w0 Γ o0 L0) (x1 : Int32) : CT la D cA B0 pa yX5_firstLike cX5_firstLike 3 (some .int) (rmD 2 0 0) [.ref o0, .int (x1)] h (RdO iP h) := by
  refine CT_of (by decide +kernel) (Nat.le_of_ble_eq_true rfl) ?_
  intro p e s m args below meth c X E hr hlk hnm
  have dk : ∀ {pc : Nat} {q : Instr × Nat}, lkd DX5_firstLike pc = some q → decode cX5_firstLike pc = .ok q := lkd_ok DX5_firstLike_ok
  obtain ⟨hL2, q1, gb3, gl4⟩ := id T0
  have L2 : ∀ j5 : Int32, ∀ (l : List (Nat × Value)), lsel l [2, 1, 0] = [(2, .int (j5)), (1, .int (x1)), (0, .ref o0)] → WR p la e (rmD 2 0 0) s m args below meth c D cA B0 3 (RdO iP h) 2 l [] h 0 0 := by
    refine loopUp (fun j5 ih2 => ?_)
    intro l hl
    refine WS.sel [2, 1, 0] hl ?_
    iterate 2 refine fst1_ok X (dk rfl) rfl ?_
    refine br_ok X (dk rfl) rfl (show ((4 : Nat) : Int) + 21 = ((25 : Nat) : Int) from rfl) (fun c8 => ?_) (fun c9 => ?_)
    · refine fst1_ok X (dk rfl) rfl ?_
      exact reti_ok X hr hlk rfl (dk rfl) ⟨⟨_, rfl⟩, rfl⟩ (Nat.le_of_ble_eq_true rfl) (Nat.le_of_ble_eq_true rfl)
    · iterate 4 refine fst1_ok X (dk rfl) rfl ?_
      refine callVR_ok (ci := 7) (T := TX5) (N := 3) (av := [.int _, .ref _, .int _]) (r := []) X E (c5_isLikeAt _ (TI.rf I).1 T0 _ T0 _) lkX5_isLikeAt mlX5_68 lmX5_isLikeAt lpX5_isLikeAt ⟨Nat.le_of_ble_eq_true rfl, Nat.le_of_ble_eq_true rfl⟩ ⟨Nat.le_of_ble_eq_true rfl, Nat.le_of_ble_eq_true rfl⟩ rfl (tm_cell (TI.rf I).1 gb3) (Nat.le_of_ble_eq_true rfl) (dk rfl) ?_
      rintro _ ⟨b10, rfl⟩
      refine br_ok X (dk rfl) rfl (show ((14 : Nat) : Int) + 5 = ((19 : Nat) : Int) from rfl) (fun c11 => ?_) (fun c12 => ?_)
      · refine fst1_ok X (dk rfl) rfl ?_
        refine br_ok X (dk rfl) rfl (show ((22 : Nat) : Int) + (-20) = ((2 : Nat) : Int) from rfl) (fun _ => ?_) (fun q => absurd trivial q)
        exact ih2 _ (nlt_of c9) _ rfl
      · refine fst1_ok X (dk rfl) rfl ?_
        exact reti_ok X hr hlk rfl (dk rfl) ⟨⟨_, rfl⟩, rfl⟩ (Nat.le_of_ble_eq_true rfl) (Nat.le_of_ble_eq_true rfl)
  iterate 2 refine fst1_ok X (dk rfl) rfl ?_
  exact L2 _ _ rfl
set_option maxHeartbeats 4000000 in
theorem FZ.c5_unlikePlaces (h : AH) (I : Tyg Γ h) {o0 L0 : Nat} {w0 : Bool} (T0 : TermG w0 Γ o0 L0) : CT la D cA B0 pa yX5_unlikePlaces cX5_unlikePlaces 3 (some .int) (rmD 3 0 0) [.ref o0] h (RdO iP h) := by
  refine CT_of (by decide +kernel) (Nat.le_of_ble_eq_true rfl) ?_
  intro p e s m args below meth c X E hr hlk hnm
  have dk : ∀ {pc : Nat} {q : Instr × Nat}, lkd DX5_unlikePlaces pc = some q → decode cX5_unlikePlaces pc = .ok q := lkd_ok DX5_unlikePlaces_ok
  obtain ⟨hL2, q1, gb3, gl4⟩ := id T0
  have L4 : ∀ j5 : Int32, ∀ (y6 : Int32) (l : List (Nat × Value)), lsel l [2, 1, 0] = [(2, .int (j5)), (1, .int (y6)), (0, .ref o0)] → WR p la e (rmD 3 0 0) s m args below meth c D cA B0 3 (RdO iP h) 4 l [] h 0 0 := by
    refine loopUp (fun j5 ih4 => ?_)
    intro y6 l hl
    refine WS.sel [2, 1, 0] hl ?_
    iterate 2 refine fst1_ok X (dk rfl) rfl ?_
    obtain ⟨f8, t9, hx10, hf11⟩ := tm_open (TI.rf I).1 gb3
    refine getf_ok X flX5_21 (dk rfl) hx10 rfl ?_
    refine br_ok X (dk rfl) rfl (show ((9 : Nat) : Int) + 21 = ((30 : Nat) : Int) from rfl) (fun c12 => ?_) (fun c13 => ?_)
    · refine fst1_ok X (dk rfl) rfl ?_
      exact reti_ok X hr hlk rfl (dk rfl) ⟨⟨_, rfl⟩, rfl⟩ (Nat.le_of_ble_eq_true rfl) (Nat.le_of_ble_eq_true rfl)
    · iterate 2 refine fst1_ok X (dk rfl) rfl ?_
      refine callVR_ok (ci := 7) (T := TX5) (N := 3) (av := [.int _]) (r := []) X E (c5_firstLike _ (TI.rf I).1 T0 _) lkX5_firstLike mlX5_72 lmX5_firstLike lpX5_firstLike ⟨Nat.le_of_ble_eq_true rfl, Nat.le_of_ble_eq_true rfl⟩ ⟨Nat.le_of_ble_eq_true rfl, Nat.le_of_ble_eq_true rfl⟩ rfl (tm_cell (TI.rf I).1 gb3) (Nat.le_of_ble_eq_true rfl) (dk rfl) ?_
      rintro _ ⟨x14, rfl⟩
      refine fst1_ok X (dk rfl) rfl ?_
      refine br_ok X (dk rfl) rfl (show ((18 : Nat) : Int) + 6 = ((24 : Nat) : Int) from rfl) (fun c15 => ?_) (fun c16 => ?_)
      · refine fst1_ok X (dk rfl) rfl ?_
        refine br_ok X (dk rfl) rfl (show ((27 : Nat) : Int) + (-23) = ((4 : Nat) : Int) from rfl) (fun _ => ?_) (fun q => absurd trivial q)
        exact ih4 _ (nlt_of c13) _ _ rfl
      · iterate 2 refine fst1_ok X (dk rfl) rfl ?_
        refine br_ok X (dk rfl) rfl (show ((27 : Nat) : Int) + (-23) = ((4 : Nat) : Int) from rfl) (fun _ => ?_) (fun q => absurd trivial q)
        exact ih4 _ (nlt_of c13) _ _ rfl
  iterate 4 refine fst1_ok X (dk rfl) rfl ?_
  exact L4 _ _ _ rfl
set_option maxHeartbeats 4000000 in
theorem FZ.c5_placesOf (h : AH) (I : Tyg Γ h) {o0 L0 : Nat} {w0 : Bool} (T0 : TermG w0 Γ o0 L0) (x1 : Int32) : CT la D cA B0 pa yX5_placesOf cX5_placesOf 4 (some .int) (rmD 1 0 0) [.ref o0, .int (x1)] h (RdO iP h) := by
  refine CT_of (by decide +kernel) (Nat.le_of_ble_eq_true rfl) ?_
  intro p e s m args below meth c X E hr hlk hnm
  have dk : ∀ {pc : Nat} {q : Instr × Nat}, lkd DX5_placesOf pc = some q → decode cX5_placesOf pc = .ok q := lkd_ok DX5_placesOf_ok
  obtain ⟨hL2, q1, gb3, gl4⟩ := id T0
  have L4 : ∀ j5 : Int32, ∀ (y6 : Int32) (l : List (Nat × Value)), lsel l [3, 2, 1, 0] = [(3, .int (j5)), (2, .int (y6)), (1, .int (x1)), (0, .ref o0)] → WR p la e (rmD 1 0 0) s m args below meth c D cA B0 4 (RdO iP h) 4 l [] h 0 0 := by
    refine loopUp (fun j5 ih4 => ?_)
    intro y6 l hl
    refine WS.sel [3, 2, 1, 0] hl ?_
    iterate 2 refine fst1_ok X (dk rfl) rfl ?_
    obtain ⟨f9, t10, hx11, hf12⟩ := tm_open (TI.rf I).1 gb3
    refine getf_ok X flX5_21 (dk rfl) hx11 rfl ?_
    refine br_ok X (dk rfl) rfl (show ((9 : Nat) : Int) + 21 = ((30 : Nat) : Int) from rfl) (fun c13 => ?_) (fun c14 => ?_)
    · refine fst1_ok X (dk rfl) rfl ?_
      exact reti_ok X hr hlk rfl (dk rfl) ⟨⟨_, rfl⟩, rfl⟩ (Nat.le_of_ble_eq_true rfl) (Nat.le_of_ble_eq_true rfl)
    · iterate 2 refine fst1_ok X (dk rfl) rfl ?_
      refine callVR_ok (ci := 7) (T := TX5) (N := 3) (av := [.int _]) (r := []) X E (c5_letterAt _ (TI.rf I).1 T0 _) lkX5_letterAt mlX5_29 lmX5_letterAt lpX5_letterAt ⟨Nat.le_of_ble_eq_true rfl, Nat.le_of_ble_eq_true rfl⟩ ⟨Nat.le_of_ble_eq_true rfl, Nat.le_of_ble_eq_true rfl⟩ rfl (tm_cell (TI.rf I).1 gb3) (Nat.le_of_ble_eq_true rfl) (dk rfl) ?_
      rintro _ ⟨x15, hx16, rfl⟩
      refine fst1_ok X (dk rfl) rfl ?_
      refine br_ok X (dk rfl) rfl (show ((18 : Nat) : Int) + 6 = ((24 : Nat) : Int) from rfl) (fun c17 => ?_) (fun c18 => ?_)
      · refine fst1_ok X (dk rfl) rfl ?_
        refine br_ok X (dk rfl) rfl (show ((27 : Nat) : Int) + (-23) = ((4 : Nat) : Int) from rfl) (fun _ => ?_) (fun q => absurd trivial q)
        exact ih4 _ (nlt_of c14) _ _ rfl
      · iterate 2 refine fst1_ok X (dk rfl) rfl ?_
        refine br_ok X (dk rfl) rfl (show ((27 : Nat) : Int) + (-23) = ((4 : Nat) : Int) from rfl) (fun _ => ?_) (fun q => absurd trivial q)
        exact ih4 _ (nlt_of c14) _ _ rfl
  iterate 4 refine fst1_ok X (dk rfl) rfl ?_
  exact L4 _ _ _ rfl
set_option maxHeartbeats 4000000 in
theorem FZ.c5_allNames (h : AH) (I : Tyg Γ h) {o0 L0 : Nat} {w0 : Bool} (T0 : TermG w0 Γ o0 L0) : CT la D cA B0 pa yX5_allNames cX5_allNames 1 (some .int) (rmD 2 0 0) [.ref o0] h (RdO iP h) := by
  refine CT_of (by decide +kernel) (Nat.le_of_ble_eq_true rfl) ?_
  intro p e s m args below meth c X E hr hlk hnm
  have dk : ∀ {pc : Nat} {q : Instr × Nat}, lkd DX5_allNames pc = some q → decode cX5_allNames pc = .ok q := lkd_ok DX5_allNames_ok
  obtain ⟨hL2, q1, gb3, gl4⟩ := id T0
  iterate 3 refine fst1_ok X (dk rfl) rfl ?_
  obtain ⟨f5, t6, hx7, hf8⟩ := tm_open (TI.rf I).1 gb3
  refine getf_ok X flX5_21 (dk rfl) hx7 rfl ?_
  refine callVR_ok (ci := 7) (T := TX5) (N := 3) (av := [.int _, .int _]) (r := []) X E (c5_namesIn _ (TI.rf I).1 T0 _ _) lkX5_namesIn mlX5_51 lmX5_namesIn lpX5_namesIn ⟨Nat.le_of_ble_eq_true rfl, Nat.le_of_ble_eq_true rfl⟩ ⟨Nat.le_of_ble_eq_true rfl, Nat.le_of_ble_eq_true rfl⟩ rfl (tm_cell (TI.rf I).1 gb3) (Nat.le_of_ble_eq_true rfl) (dk rfl) ?_
  rintro _ ⟨x9, rfl⟩
  exact reti_ok X hr hlk rfl (dk rfl) ⟨⟨_, rfl⟩, rfl⟩ (Nat.le_of_ble_eq_true rfl) (Nat.le_of_ble_eq_true rfl)
set_option maxHeartbeats 4000000 in
theorem FZ.c5_becomeBoth (h : AH) (I : Tyg Γ h) {o0 L0 : Nat} (T0 : TermG true Γ o0 L0) {o1 L1 : Nat} {w1 : Bool} (T1 : TermG w1 Γ o1 L1) {o2 L2 : Nat} {w2 : Bool} (T2 : TermG w2 Γ o2 L2) : CT la D cA B0 pa yX5_becomeBoth cX5_becomeBoth 3 none (rmD 2 0 0) [.ref o0, .ref o1, .ref o2] h (WrO Γ voidP h) := by
  refine CT_of (by decide +kernel) (Nat.le_of_ble_eq_true rfl) ?_
  intro p e s m args below meth c X E hr hlk hnm
  have dk : ∀ {pc : Nat} {q : Instr × Nat}, lkd DX5_becomeBoth pc = some q → decode cX5_becomeBoth pc = .ok q := lkd_ok DX5_becomeBoth_ok
  obtain ⟨hL2, q1, gb3, gl4⟩ := id T0
  obtain ⟨hL6, q5, gb7, gl8⟩ := id T1
  obtain ⟨hL10, q9, gb11, gl12⟩ := id T2
  refine fst1_ok X (dk rfl) rfl ?_
  refine callVW_ok (ci := 7) (T := TX5) (N := 3) (av := []) (r := []) X E (TI.rf I) (c5_empty _ (TI.rf I).1 T0) lkX5_empty mlX5_37 lmX5_empty lpX5_empty ⟨Nat.le_of_ble_eq_true rfl, Nat.le_of_ble_eq_true rfl⟩ ⟨Nat.le_of_ble_eq_true rfl, Nat.le_of_ble_eq_true rfl⟩ rfl (tm_cell (TI.rf I).1 gb3) (Nat.le_of_ble_eq_true rfl) (dk rfl) ?_
  rintro _ h13 rfl J14
  iterate 2 refine fst1_ok X (dk rfl) rfl ?_
  refine callVW_ok (ci := 7) (T := TX5) (N := 3) (av := [.ref _]) (r := []) X E J14 (c5_addTerm _ J14.1 T0 T1) lkX5_addTerm mlX5_40 lmX5_addTerm lpX5_addTerm ⟨Nat.le_of_ble_eq_true rfl, Nat.le_of_ble_eq_true rfl⟩ ⟨Nat.le_of_ble_eq_true rfl, Nat.le_of_ble_eq_true rfl⟩ rfl (tm_cell J14.1 gb3) (Nat.le_of_ble_eq_true rfl) (dk rfl) ?_
  rintro _ h15 rfl J16
  iterate 2 refine fst1_ok X (dk rfl) rfl ?_
  refine callVW_ok (ci := 7) (T := TX5) (N := 3) (av := [.ref _]) (r := []) X E J16 (c5_addTerm _ J16.1 T0 T2) lkX5_addTerm mlX5_40 lmX5_addTerm lpX5_addTerm ⟨Nat.le_of_ble_eq_true rfl, Nat.le_of_ble_eq_true rfl⟩ ⟨Nat.le_of_ble_eq_true rfl, Nat.le_of_ble_eq_true rfl⟩ rfl (tm_cell J16.1 gb3) (Nat.le_of_ble_eq_true rfl) (dk rfl) ?_
  rintro _ h17 rfl J18
  exact retv_ok X hr hlk (dk rfl) ⟨rfl, J18⟩ (Nat.le_of_ble_eq_true rfl) (Nat.le_of_ble_eq_true rfl)
end M88
