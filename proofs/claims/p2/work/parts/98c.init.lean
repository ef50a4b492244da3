/-! the constructors of the class: types for new cells (printed by wip/p40/genInit.py) -/
def Sub (Γ Γ' : TY) : Prop := ∀ (a : Nat) (φ : AC → Prop), Γ a = some φ → Γ' a = some φ
theorem Sub.rf (Γ : TY) : Sub Γ Γ := fun _ _ h => h
theorem Sub.trans {Γ Γ1 Γ2 : TY} (a : Sub Γ Γ1) (b : Sub Γ1 Γ2) : Sub Γ Γ2 := fun x φ h => b x φ (a x φ h)
theorem TermT.mono {Γ Γ' : TY} (S : Sub Γ Γ') {b L : Nat} (T : TermT Γ b L) : TermT Γ' b L := by
  obtain ⟨h, q, g1, g2⟩ := T
  exact ⟨h, q, S _ _ g1, S _ _ g2⟩
theorem PairsT.mono {Γ Γ' : TY} (S : Sub Γ Γ') {b : Nat} (T : PairsT Γ b) : PairsT Γ' b := by
  obtain ⟨x, y, g1, g2, g3⟩ := T
  exact ⟨x, y, S _ _ g1, S _ _ g2, S _ _ g3⟩
theorem AnsT.mono {Γ Γ' : TY} (S : Sub Γ Γ') {b : Nat} (T : AnsT Γ b) : AnsT Γ' b := by
  obtain ⟨x, y, g1, g2, g3, g4⟩ := T
  exact ⟨x, y, S _ _ g1, S _ _ g2, g3, fun t ht => (g4 t ht).mono S⟩
theorem StepsT.mono {Γ Γ' : TY} (S : Sub Γ Γ') {b : Nat} (T : StepsT Γ b) : StepsT Γ' b := by
  obtain ⟨x, y, z, g1, g2, g3, g4⟩ := T
  exact ⟨x, y, z, S _ _ g1, g2.mono S, S _ _ g3, g4.mono S⟩
theorem ClassT.mono {Γ Γ' : TY} (S : Sub Γ Γ') {b : Nat} (T : ClassT Γ b) : ClassT Γ' b := by
  obtain ⟨x, y, z, u, w, g1, g2, g3, g4, g5, g6⟩ := T
  exact ⟨x, y, z, u, w, S _ _ g1, g2.mono S, S _ _ g3, S _ _ g4, S _ _ g5, g6.mono S⟩
theorem ShapeT.mono {Γ Γ' : TY} (S : Sub Γ Γ') {b : Nat} (T : ShapeT Γ b) : ShapeT Γ' b := by
  obtain ⟨x, g1, g2⟩ := T
  exact ⟨x, S _ _ g1, g2.mono S⟩
/-- types are of the class's kinds -/
def KG (Γ : TY) : Prop := ∀ (a : Nat) (φ : AC → Prop), Γ a = some φ → ∀ c, φ c → ck c.1 = true
def tup (Γ : TY) (q : Nat) (φ : AC → Prop) : TY := fun a => if a = q then some φ else Γ a
theorem tup_self (Γ : TY) (q : Nat) (φ : AC → Prop) : tup Γ q φ q = some φ := if_pos rfl
theorem tup_ne (Γ : TY) {a q : Nat} (φ : AC → Prop) (h : a ≠ q) : tup Γ q φ a = Γ a := if_neg h
theorem tup_sub {Γ : TY} {q : Nat} (g : Γ q = none) (φ : AC → Prop) : Sub Γ (tup Γ q φ) := fun a ψ h => by
  rw [tup_ne _ _ (fun z => by rw [z, g] at h; cases h)]
  exact h
theorem Tyg.fresh {Γ : TY} {h : AH} (I : Tyg Γ h) {q : Nat} (hq : h q = none) : Γ q = none := by
  cases e : Γ q with
  | none => rfl
  | some φ => obtain ⟨c, hc, -⟩ := I q φ e; rw [hq] at hc; cases hc
theorem Tyg.frame {Γ : TY} {h h' : AH} (I : Tyg Γ h) (hk : ∀ (a : Nat) (φ : AC → Prop), Γ a = some φ → h' a = h a) : Tyg Γ h' := fun a φ e => by
  rw [hk a φ e]
  exact I a φ e
theorem Tyg.add {Γ : TY} {h : AH} (I : Tyg Γ h) {q : Nat} {c : AC} {φ : AC → Prop} (hq : h q = some c) (hc : φ c) : Tyg (tup Γ q φ) h := by
  intro a ψ e
  by_cases z : a = q
  · rw [z, tup_self] at e
    cases e
    exact ⟨c, by rw [z]; exact hq, hc⟩
  · rw [tup_ne _ _ z] at e
    exact I a ψ e
theorem KG.add {Γ : TY} (K : KG Γ) {q : Nat} {φ : AC → Prop} (hφ : ∀ c, φ c → ck c.1 = true) : KG (tup Γ q φ) := by
  intro a ψ e
  by_cases z : a = q
  · rw [z, tup_self] at e
    cases e
    exact hφ
  · rw [tup_ne _ _ z] at e
    exact K a ψ e
theorem ck_let {L : Nat} : ∀ c, letφ L c → ck c.1 = true := by rintro _ ⟨xs, rfl, -⟩; rfl
theorem ck_row {L : Nat} : ∀ c, rowφ L c → ck c.1 = true := by rintro _ ⟨xs, rfl, -⟩; rfl
theorem ck_term {q L : Nat} : ∀ c, termφ q L c → ck c.1 = true := by rintro _ ⟨f, t, rfl, -⟩; rfl
theorem ck_pair {a b : Nat} : ∀ c, pairφ a b c → ck c.1 = true := by rintro _ ⟨w, rfl, -⟩; rfl
theorem ck_step {a b q : Nat} : ∀ c, stepφ a b q c → ck c.1 = true := by rintro _ ⟨t, e, rfl⟩; rfl
theorem ck_is {k : Nat} {fs : List Value} (hk : ck k = true) : ∀ c, isφ (k, fs) c → ck c.1 = true := by rintro _ rfl; exact hk
theorem ck_obj {S A sp os wd ow sa oa bs bc sh : Nat} {kn : Int32} : ∀ c, objφ S A sp os wd ow sa oa bs bc sh kn c → ck c.1 = true := by rintro _ ⟨d, r, rfl⟩; rfl
theorem let_new (L : Nat) : letφ L (107, (List.replicate L (0 : Int32)).map Value.int) := ⟨_, rfl, List.length_replicate, fun x hx => by rw [(List.mem_replicate.mp hx).2]; exact ⟨by decide, by decide⟩⟩
theorem row_new (L : Nat) : rowφ L (107, (List.replicate L (0 : Int32)).map Value.int) := ⟨_, rfl, List.length_replicate⟩
/-- what a constructor gives: an object of a type, new cells have types, all else stays -/
def NewP (Γ : TY) (o : Nat) (h : AH) (T : TY → Prop) (h' : AH) : Prop := ∃ Γ', Sub Γ Γ' ∧ T Γ' ∧ Tyg Γ' h' ∧ KG Γ' ∧ (∀ (a : Nat) (c : AC), a ≠ o → Γ a = none → h a = some c → h' a = some c) ∧ (∀ a : Nat, Γ a = none → h a ≠ none → a ≠ o → Γ' a = none)
/-- .. seen from before the object was made -/
def NewQ (Γ : TY) (h : AH) (T : TY → Prop) (h' : AH) : Prop := ∃ Γ', Sub Γ Γ' ∧ T Γ' ∧ Tyg Γ' h' ∧ KG Γ' ∧ (∀ (a : Nat) (c : AC), Γ a = none → h a = some c → h' a = some c ∧ Γ' a = none)
theorem NewP.toQ {Γ : TY} {q : Nat} {h h' : AH} {c0 : AC} {T : TY → Prop} (hq : h q = none) (N : NewP Γ q (hup h q c0) T h') : NewQ Γ h T h' := by
  obtain ⟨Γ', s, t, i, k, f, g⟩ := N
  refine ⟨Γ', s, t, i, k, fun a c ga ha => ?_⟩
  have hne : a ≠ q := fun z => by rw [z, hq] at ha; cases ha
  have h1 : hup h q c0 a = some c := by rw [hup_ne _ _ hne]; exact ha
  exact ⟨f a c hne ga h1, g a ga (by rw [h1]; exact fun z => by cases z) hne⟩
theorem Tyg.newc {Γ : TY} {h : AH} (I : Tyg Γ h) {q : Nat} (hq : h q = none) (c : AC) : Tyg Γ (hup h q c) := I.frame (fun a φ e => hup_ne _ _ (fun z => by rw [z, I.fresh hq] at e; cases e))
theorem Tyg.setc {Γ : TY} {h : AH} (I : Tyg Γ h) {q : Nat} (gq : Γ q = none) (c : AC) : Tyg Γ (hup h q c) := I.frame (fun a φ e => hup_ne _ _ (fun z => by rw [z, gq] at e; cases e))
set_option maxRecDepth 100000 in
theorem acInt : Cond.arrayClass .int ∈ WT := WT_of (by decide +kernel) rfl
set_option maxRecDepth 100000 in
theorem ml0_obj : Cond.methodLink RX0 3 Lib.objectInit ∈ WT := WT_of (by decide +kernel) rfl
set_option maxRecDepth 100000 in
theorem ml1_obj : Cond.methodLink RX1 3 Lib.objectInit ∈ WT := WT_of (by decide +kernel) rfl
set_option maxRecDepth 100000 in
theorem ml2_obj : Cond.methodLink RX2 3 Lib.objectInit ∈ WT := WT_of (by decide +kernel) rfl
set_option maxRecDepth 100000 in
theorem ml3_obj : Cond.methodLink RX3 3 Lib.objectInit ∈ WT := WT_of (by decide +kernel) rfl
set_option maxRecDepth 100000 in
theorem ml4_obj : Cond.methodLink RX4 3 Lib.objectInit ∈ WT := WT_of (by decide +kernel) rfl
set_option maxRecDepth 100000 in
theorem ml5_obj : Cond.methodLink RX5 3 Lib.objectInit ∈ WT := WT_of (by decide +kernel) rfl
set_option maxRecDepth 100000 in
theorem ml6_obj : Cond.methodLink RX6 1 Lib.objectInit ∈ WT := WT_of (by decide +kernel) rfl
theorem nc0_9 : NC RX0 9 7 [.null, .int 0, .int 0] := by
  refine ⟨RX5, TX5, 3, tyX5, rfl, cwX5, tyX5_ok, rfl, fun j hj => ?_, WT_of (by decide +kernel) rfl, WT_of (by decide +kernel) rfl, liX5⟩
  match j, hj with
  | 0, _ => rfl
  | 1, _ => rfl
  | 2, _ => rfl
theorem nc4_9 : NC RX4 9 7 [.null, .int 0, .int 0] := by
  refine ⟨RX5, TX5, 3, tyX5, rfl, cwX5, tyX5_ok, rfl, fun j hj => ?_, WT_of (by decide +kernel) rfl, WT_of (by decide +kernel) rfl, liX5⟩
  match j, hj with
  | 0, _ => rfl
  | 1, _ => rfl
  | 2, _ => rfl
theorem nc4_24 : NC RX4 24 4 [.null, .null, .int 0] := by
  refine ⟨RX2, TX2, 3, tyX2, rfl, cwX2, tyX2_ok, rfl, fun j hj => ?_, WT_of (by decide +kernel) rfl, WT_of (by decide +kernel) rfl, liX2⟩
  match j, hj with
  | 0, _ => rfl
  | 1, _ => rfl
  | 2, _ => rfl
theorem nc1_9 : NC RX1 9 7 [.null, .int 0, .int 0] := by
  refine ⟨RX5, TX5, 3, tyX5, rfl, cwX5, tyX5_ok, rfl, fun j hj => ?_, WT_of (by decide +kernel) rfl, WT_of (by decide +kernel) rfl, liX5⟩
  match j, hj with
  | 0, _ => rfl
  | 1, _ => rfl
  | 2, _ => rfl
theorem nc1_30 : NC RX1 30 4 [.null, .null, .int 0] := by
  refine ⟨RX2, TX2, 3, tyX2, rfl, cwX2, tyX2_ok, rfl, fun j hj => ?_, WT_of (by decide +kernel) rfl, WT_of (by decide +kernel) rfl, liX2⟩
  match j, hj with
  | 0, _ => rfl
  | 1, _ => rfl
  | 2, _ => rfl
theorem nc3_9 : NC RX3 9 4 [.null, .null, .int 0] := by
  refine ⟨RX2, TX2, 3, tyX2, rfl, cwX2, tyX2_ok, rfl, fun j hj => ?_, WT_of (by decide +kernel) rfl, WT_of (by decide +kernel) rfl, liX2⟩
  match j, hj with
  | 0, _ => rfl
  | 1, _ => rfl
  | 2, _ => rfl
theorem nc6_9 : NC RX6 9 7 [.null, .int 0, .int 0] := by
  refine ⟨RX5, TX5, 3, tyX5, rfl, cwX5, tyX5_ok, rfl, fun j hj => ?_, WT_of (by decide +kernel) rfl, WT_of (by decide +kernel) rfl, liX5⟩
  match j, hj with
  | 0, _ => rfl
  | 1, _ => rfl
  | 2, _ => rfl
theorem nc6_15 : NC RX6 15 2 [.null] := by
  refine ⟨RX0, TX0, 1, tyX0, rfl, cwX0, tyX0_ok, rfl, fun j hj => ?_, WT_of (by decide +kernel) rfl, WT_of (by decide +kernel) rfl, liX0⟩
  match j, hj with
  | 0, _ => rfl
theorem nc6_45 : NC RX6 45 6 [.null, .null, .null, .int 0, .int 0] := by
  refine ⟨RX4, TX4, 5, tyX4, rfl, cwX4, tyX4_ok, rfl, fun j hj => ?_, WT_of (by decide +kernel) rfl, WT_of (by decide +kernel) rfl, liX4⟩
  match j, hj with
  | 0, _ => rfl
  | 1, _ => rfl
  | 2, _ => rfl
  | 3, _ => rfl
  | 4, _ => rfl
theorem nc6_52 : NC RX6 52 3 [.null, .null, .null, .null, .null] := by
  refine ⟨RX1, TX1, 5, tyX1, rfl, cwX1, tyX1_ok, rfl, fun j hj => ?_, WT_of (by decide +kernel) rfl, WT_of (by decide +kernel) rfl, liX1⟩
  match j, hj with
  | 0, _ => rfl
  | 1, _ => rfl
  | 2, _ => rfl
  | 3, _ => rfl
  | 4, _ => rfl
theorem nc6_59 : NC RX6 59 5 [.null] := by
  refine ⟨RX3, TX3, 1, tyX3, rfl, cwX3, tyX3_ok, rfl, fun j hj => ?_, WT_of (by decide +kernel) rfl, WT_of (by decide +kernel) rfl, liX3⟩
  match j, hj with
  | 0, _ => rfl
section CIN
variable {p : Program} {la : Launch} {e : Env} {R : Room} {s : State} {m : MethodId} {args : Array Value} {below : List Frame} {meth : Method} {c : Code} {Q : State → Prop}
variable {D : va_G} {cA : Nat → ClassId} {B0 pa nL : Nat} {cc : ByteArray} {own : String} {pc k n : Nat} {l : List (Nat × Value)} {r : List Value} {h : AH}
theorem callIN_ok (X : CX p s m args c D cA B0 nL cc own) (E : EN D cA B0 pa s) {y : MethodName} {host : String} {bytes : ByteArray} {maxL idx b : Nat} {rm : Room} {av : List Value} {post : Option Value → AH → Prop}
    (hM : CT la D cA B0 pa y bytes maxL none rm (.ref b :: av) h post) (hL : LK y bytes maxL av.length none) (hl : Cond.methodLinkNest own idx y host ∈ lw_tbl) (hi : Cond.instanceMethod y ∈ WT) (hn : y.name = "<init>") (hR : rm.frames + 1 ≤ R.frames ∧ 8 + (maxL + 11) + rm.locals ≤ R.locals) (hf : k + rm.cells ≤ R.cells ∧ n + rm.slots ≤ R.slots)
    (hW : (r.map fun v => v.category).sum ≤ 8) (hd : decode cc pc = .ok (.invokespecial idx, 3))
    (kk : ∀ (v : Option Value) (h' : AH), post v h' → WS p la e R s m args below meth c Q D cA B0 nL (pc + 3) l (v.toList ++ r) h' (k + rm.cells) (n + rm.slots)) : WS p la e R s m args below meth c Q D cA B0 nL pc l (av.reverse ++ .ref b :: r) h k n :=
  run_ok (idx := idx) (As := (Value.ref b :: av).toArray) X.2.2.2.2.2.2 (fun H locs ls hH hls => va_runIN (fix_ok X) hM ⟨va_cnB av.length X.2.2.2.2.1 (WT_goodIn y bytes maxL none hL.1) rfl rfl rfl (E.2.1 _ hl rfl) (X.2.2.2.2.1 _ hL.2.1) ⟨hL.2.2.1.1, hL.2.2.1.2, hL.2.2.2⟩ hR, hn, X.2.2.2.2.1 _ hi⟩ (preS_of X E hH (.ref b :: av)) rfl rfl hls.1 rfl (lv_room hW) hd hf) kk
end CIN
section M98c
variable {la : Launch} {D : va_G} {cA : Nat → ClassId} {B0 pa : Nat}
set_option maxHeartbeats 8000000 in
theorem c5_init (h : AH) {Γ : TY} (I : Tyg Γ h) (K : KG Γ) {o L : Nat} (hL : L ≤ 256) (ho : h o = some (7, [.null, .int 0, .int 0])) (go : Γ o = none) : CT la D cA B0 pa yX5_init cX5_init 2 none (rmD 1 1 L) [.ref o, vI L] h (fun v h' => v = none ∧ NewP Γ o h (fun Γ' => TermT Γ' o L) h') := by
  refine CT_of (by decide +kernel) (Nat.le_of_ble_eq_true rfl) ?_
  intro p e s m args below meth c X E hr hlk hnm
  have dk : ∀ {pc : Nat} {q : Instr × Nat}, lkd DX5_init pc = some q → decode cX5_init pc = .ok q := lkd_ok DX5_init_ok
  refine fst1_ok X (dk rfl) rfl ?_
  refine obj_ok X ml5_obj (dk rfl) (Nat.le_of_ble_eq_true rfl) (Nat.le_of_ble_eq_true rfl) (Nat.le_of_ble_eq_true rfl) ?_
  iterate 3 refine fst1_ok X (dk rfl) rfl ?_
  refine mmax_ok X (y := 0) (by omega) (by omega) mlX5_9 (dk rfl) (Nat.le_refl 1) (Nat.le_of_ble_eq_true rfl) (Nat.zero_le _) (Nat.zero_le _) ?_
  rw [Nat.max_eq_left (Nat.zero_le L)]
  have e1 : (nI L).toNatClampNeg = L := nI_clamp (by omega)
  refine newa7_ok X acInt (dk rfl) (nI_pos (by omega)) (by rw [e1]; omega) (by show 0 + 1 ≤ 1; omega) (by rw [e1]; show 0 + L ≤ L; omega) (fun q hq hBq => ?_)
  rw [e1]
  have hoq : o ≠ q := fun z => by rw [z, hq] at ho; cases ho
  refine putf_ok X flX5_15 ftX5_0 (Or.inr ⟨by rw [hnm]; rfl, RX5, TX5, 3, rfl, rfl⟩) rfl rfl (dk rfl) (by rw [hup_ne _ _ hoq]; exact ho) (Nat.le_of_ble_eq_true rfl) ?_
  refine retv_ok X hr hlk (dk rfl) ⟨rfl, tup (tup Γ q (letφ L)) o (termφ q L), ?_, ?_, ?_, ?_, ?_, ?_⟩ (by show 0 + 1 ≤ 1; omega) (by show 0 + L ≤ L; omega)
  · exact (tup_sub (I.fresh hq) _).trans (tup_sub (by rw [tup_ne _ _ hoq]; exact go) _)
  · exact ⟨hL, q, tup_self _ _ _, by rw [tup_ne _ _ hoq.symm, tup_self]⟩
  · have I1 := (I.newc hq (107, (List.replicate L (0 : Int32)).map Value.int)).add (hup_self _ _ _) (let_new L)
    have g1 : tup Γ q (letφ L) o = none := by rw [tup_ne _ _ hoq]; exact go
    exact (I1.setc g1 _).add (hup_self _ _ _) ⟨0, false, rfl, Nat.zero_le _⟩
  · exact (K.add ck_let).add ck_term
  · intro a c ha ga hc
    rw [hup_ne _ _ ha, hup_ne _ _ (fun z => by rw [z, hq] at hc; cases hc)]
    exact hc
  · intro a ga hc ha
    rw [tup_ne _ _ ha, tup_ne _ _ (fun z => hc (by rw [z]; exact hq))]
    exact ga
set_option maxHeartbeats 8000000 in
theorem c2_init (h : AH) {Γ : TY} (I : Tyg Γ h) (K : KG Γ) {o : Nat} (ho : h o = some (4, [.null, .null, .int 0])) (go : Γ o = none) : CT la D cA B0 pa yX2_init cX2_init 1 none (rmD 1 2 256) [.ref o] h (fun v h' => v = none ∧ NewP Γ o h (fun Γ' => PairsT Γ' o) h') := by
  refine CT_of (by decide +kernel) (Nat.le_of_ble_eq_true rfl) ?_
  intro p e s m args below meth c X E hr hlk hnm
  have dk : ∀ {pc : Nat} {q : Instr × Nat}, lkd DX2_init pc = some q → decode cX2_init pc = .ok q := lkd_ok DX2_init_ok
  refine fst1_ok X (dk rfl) rfl ?_
  refine obj_ok X ml2_obj (dk rfl) (Nat.le_of_ble_eq_true rfl) (Nat.le_of_ble_eq_true rfl) (Nat.le_of_ble_eq_true rfl) ?_
  iterate 2 refine fst1_ok X (dk rfl) rfl ?_
  rw [show (Int16.ofInt 128).toInt32 = nI 128 by decide +kernel]
  have e1 : (nI 128).toNatClampNeg = 128 := nI_clamp (by omega)
  refine newa7_ok X acInt (dk rfl) (nI_pos (by omega)) (by rw [e1]; omega) (Nat.le_of_ble_eq_true rfl) (by rw [e1]; exact Nat.le_of_ble_eq_true rfl) (fun q hq hBq => ?_)
  rw [e1]
  have hoq : o ≠ q := fun z => by rw [z, hq] at ho; cases ho
  refine putf_ok X flX2_11 ftX2_0 (Or.inr ⟨by rw [hnm]; rfl, RX2, TX2, 3, rfl, rfl⟩) rfl rfl (dk rfl) (by rw [hup_ne _ _ hoq]; exact ho) (Nat.le_of_ble_eq_true rfl) ?_
  have I1 : Tyg (tup Γ q (rowφ 128)) (hup (hup h q (107, (List.replicate 128 (0 : Int32)).map Value.int)) o (4, [Value.null, .null, .int 0].set 0 (.ref q))) := ((I.newc hq _).add (hup_self _ _ _) (row_new 128)).setc (by rw [tup_ne _ _ hoq]; exact go) _
  have K1 : KG (tup Γ q (rowφ 128)) := K.add ck_row
  have o1 : hup (hup h q (107, (List.replicate 128 (0 : Int32)).map Value.int)) o (4, [Value.null, .null, .int 0].set 0 (.ref q)) o = some (4, [.ref q, .null, .int 0]) := hup_self _ _ _
  have g1 : tup Γ q (rowφ 128) o = none := by rw [tup_ne _ _ hoq]; exact go
  have F1 : ∀ (a : Nat) (c : AC), a ≠ o → Γ a = none → h a = some c → hup (hup h q (107, (List.replicate 128 (0 : Int32)).map Value.int)) o (4, [Value.null, .null, .int 0].set 0 (.ref q)) a = some c ∧ tup Γ q (rowφ 128) a = none := fun a c ha ga hc => by
    have hne : a ≠ q := fun z => by rw [z, hq] at hc; cases hc
    rw [hup_ne _ _ ha, hup_ne _ _ hne, tup_ne _ _ hne]
    exact ⟨hc, ga⟩
  have t1 := tup_self Γ q (rowφ 128)
  have s1 := tup_sub (I.fresh hq) (rowφ 128)
  generalize hup (hup h q (107, (List.replicate 128 (0 : Int32)).map Value.int)) o (4, [Value.null, .null, .int 0].set 0 (.ref q)) = h1 at I1 o1 F1
  generalize tup Γ q (rowφ 128) = Γ1 at I1 K1 g1 F1 t1 s1
  iterate 2 refine fst1_ok X (dk rfl) rfl ?_
  rw [show (Int16.ofInt 128).toInt32 = nI 128 by decide +kernel]
  refine newa7_ok X acInt (dk rfl) (nI_pos (by omega)) (by rw [e1]; omega) (Nat.le_of_ble_eq_true rfl) (by rw [e1]; exact Nat.le_of_ble_eq_true rfl) (fun q2 hq2 hBq2 => ?_)
  rw [e1]
  have hoq2 : o ≠ q2 := fun z => by rw [z, hq2] at o1; cases o1
  refine putf_ok X flX2_15 ftX2_1 (Or.inr ⟨by rw [hnm]; rfl, RX2, TX2, 3, rfl, rfl⟩) rfl rfl (dk rfl) (by rw [hup_ne _ _ hoq2]; exact o1) (Nat.le_of_ble_eq_true rfl) ?_
  refine retv_ok X hr hlk (dk rfl) ⟨rfl, tup (tup Γ1 q2 (rowφ 128)) o (pairφ q q2), ?_, ?_, ?_, ?_, ?_, ?_⟩ (Nat.le_of_ble_eq_true rfl) (Nat.le_of_ble_eq_true rfl)
  · exact s1.trans ((tup_sub (I1.fresh hq2) _).trans (tup_sub (by rw [tup_ne _ _ hoq2]; exact g1) _))
  · refine ⟨q, q2, tup_self _ _ _, ?_, by rw [tup_ne _ _ hoq2.symm, tup_self]⟩
    exact ((tup_sub (I1.fresh hq2) (rowφ 128)).trans (tup_sub (by rw [tup_ne _ _ hoq2]; exact g1) (pairφ q q2))) _ _ t1
  · exact (((I1.newc hq2 _).add (hup_self _ _ _) (row_new 128)).setc (by rw [tup_ne _ _ hoq2]; exact g1) _).add (hup_self _ _ _) ⟨0, rfl, Nat.zero_le _⟩
  · exact (K1.add ck_row).add ck_pair
  · intro a c ha ga hc
    obtain ⟨f1, f2⟩ := F1 a c ha ga hc
    rw [hup_ne _ _ ha, hup_ne _ _ (fun z => by rw [z, hq2] at f1; cases f1)]
    exact f1
  · intro a ga hc ha
    cases hz : h a with
    | none => exact absurd hz hc
    | some c =>
      obtain ⟨f1, f2⟩ := F1 a c ha ga hz
      rw [tup_ne _ _ ha, tup_ne _ _ (fun z => by rw [z, hq2] at f1; cases f1)]
      exact f2

set_option maxHeartbeats 8000000 in
theorem c3_init (h : AH) {Γ : TY} (I : Tyg Γ h) (K : KG Γ) {o : Nat} (ho : h o = some (5, [.null])) (go : Γ o = none) : CT la D cA B0 pa yX3_init cX3_init 1 none (rmD 2 3 259) [.ref o] h (fun v h' => v = none ∧ NewP Γ o h (fun Γ' => ShapeT Γ' o) h') := by
  refine CT_of (by decide +kernel) (Nat.le_of_ble_eq_true rfl) ?_
  intro p e s m args below meth c X E hr hlk hnm
  have dk : ∀ {pc : Nat} {q : Instr × Nat}, lkd DX3_init pc = some q → decode cX3_init pc = .ok q := lkd_ok DX3_init_ok
  refine fst1_ok X (dk rfl) rfl ?_
  refine obj_ok X ml3_obj (dk rfl) (Nat.le_of_ble_eq_true rfl) (Nat.le_of_ble_eq_true rfl) (Nat.le_of_ble_eq_true rfl) ?_
  refine fst1_ok X (dk rfl) rfl ?_
  refine new_ok X nc3_9 (dk rfl) (by first | exact Nat.le_of_ble_eq_true rfl | (show _ ≤ _; omega)) (by first | exact Nat.le_of_ble_eq_true rfl | (show _ ≤ _; omega)) (fun q1 hq1 hBq1 => ?_)
  iterate 1 refine fst1_ok X (dk rfl) rfl ?_
  refine callIN_ok (av := []) (r := [.ref q1, .ref o]) X E (c2_init _ (I.newc hq1 _) K (hup_self _ _ _) (I.fresh hq1)) lkX2_init mnX3_11 lmX2_init rfl ⟨Nat.le_of_ble_eq_true rfl, Nat.le_of_ble_eq_true rfl⟩ ⟨Nat.le_of_ble_eq_true rfl, Nat.le_of_ble_eq_true rfl⟩ (Nat.le_of_ble_eq_true rfl) (dk rfl) ?_
  rintro v H1a ⟨rfl, N1⟩
  obtain ⟨G1, s1, t1, I1a, K1, f1⟩ := N1.toQ hq1
  obtain ⟨o1a, go1⟩ := f1 _ _ go ho
  refine putf_ok X flX3_12 ftX3_0 (Or.inr ⟨by rw [hnm]; rfl, RX3, TX3, 1, rfl, rfl⟩) rfl rfl (dk rfl) o1a (Nat.le_of_ble_eq_true rfl) ?_
  have o1 : hup H1a o (5, [Value.null].set 0 (.ref q1)) o = some (5, [.ref q1]) := hup_self _ _ _
  have I1 : Tyg G1 (hup H1a o (5, [Value.null].set 0 (.ref q1))) := I1a.setc go1 _
  have F1 : ∀ (a : Nat) (c : AC), a ≠ o → Γ a = none → h a = some c → hup H1a o (5, [Value.null].set 0 (.ref q1)) a = some c ∧ G1 a = none := fun a c ha ga hc => by
    obtain ⟨u1, u2⟩ := (show h a = some c ∧ Γ a = none from ⟨hc, ga⟩)
    obtain ⟨u3, u4⟩ := f1 a c u2 u1
    rw [hup_ne _ _ ha]
    exact ⟨u3, u4⟩
  have S1 : Sub Γ G1 := s1
  generalize hup H1a o (5, [Value.null].set 0 (.ref q1)) = H1 at o1 I1 F1 
  refine retv_ok X hr hlk (dk rfl) ⟨rfl, tup G1 o (isφ (5, [.ref q1])), ?_, ?_, ?_, ?_, ?_, ?_⟩ (Nat.le_of_ble_eq_true rfl) (Nat.le_of_ble_eq_true rfl)
  · exact S1.trans (tup_sub go1 _)
  · have z := tup_sub go1 (isφ (5, [.ref q1]))
    exact ⟨q1, tup_self _ _ _, PairsT.mono z t1⟩
  · exact I1.add o1 rfl
  · exact K1.add (ck_is rfl)
  · exact fun a c ha ga hc => (F1 a c ha ga hc).1
  · intro a ga hc ha
    cases hz : h a with
    | none => exact absurd hz hc
    | some c =>
      rw [tup_ne _ _ ha]
      exact (F1 a c ha ga hz).2
set_option maxHeartbeats 8000000 in
theorem c4_init (h : AH) {Γ : TY} (I : Tyg Γ h) (K : KG Γ) {o : Nat} (ho : h o = some (6, [.null, .null, .null, .int 0, .int 0])) (go : Γ o = none) : CT la D cA B0 pa yX4_init cX4_init 1 none (rmD 2 6 302) [.ref o] h (fun v h' => v = none ∧ NewP Γ o h (fun Γ' => StepsT Γ' o) h') := by
  refine CT_of (by decide +kernel) (Nat.le_of_ble_eq_true rfl) ?_
  intro p e s m args below meth c X E hr hlk hnm
  have dk : ∀ {pc : Nat} {q : Instr × Nat}, lkd DX4_init pc = some q → decode cX4_init pc = .ok q := lkd_ok DX4_init_ok
  refine fst1_ok X (dk rfl) rfl ?_
  refine obj_ok X ml4_obj (dk rfl) (Nat.le_of_ble_eq_true rfl) (Nat.le_of_ble_eq_true rfl) (Nat.le_of_ble_eq_true rfl) ?_
  refine fst1_ok X (dk rfl) rfl ?_
  refine new_ok X nc4_9 (dk rfl) (by first | exact Nat.le_of_ble_eq_true rfl | (show _ ≤ _; omega)) (by first | exact Nat.le_of_ble_eq_true rfl | (show _ ≤ _; omega)) (fun q1 hq1 hBq1 => ?_)
  iterate 2 refine fst1_ok X (dk rfl) rfl ?_
  rw [show (Int8.ofInt 32).toInt32 = nI 32 by decide +kernel]
  refine callI_ok (av := [.int (nI 32)]) (r := [.ref q1, .ref o]) X E (c5_init _ (I.newc hq1 _) K (L := 32) (by omega) (hup_self _ _ _) (I.fresh hq1)) lkX5_init mlX4_11 lmX5_init rfl ⟨Nat.le_of_ble_eq_true rfl, Nat.le_of_ble_eq_true rfl⟩ ⟨Nat.le_of_ble_eq_true rfl, Nat.le_of_ble_eq_true rfl⟩ (Nat.le_of_ble_eq_true rfl) (dk rfl) ?_
  rintro v H1a ⟨rfl, N1⟩
  obtain ⟨G1, s1, t1, I1a, K1, f1⟩ := N1.toQ hq1
  obtain ⟨o1a, go1⟩ := f1 _ _ go ho
  refine putf_ok X flX4_14 ftX4_0 (Or.inr ⟨by rw [hnm]; rfl, RX4, TX4, 5, rfl, rfl⟩) rfl rfl (dk rfl) o1a (Nat.le_of_ble_eq_true rfl) ?_
  have o1 : hup H1a o (6, [Value.null, .null, .null, .int 0, .int 0].set 0 (.ref q1)) o = some (6, [.ref q1, .null, .null, .int 0, .int 0]) := hup_self _ _ _
  have I1 : Tyg G1 (hup H1a o (6, [Value.null, .null, .null, .int 0, .int 0].set 0 (.ref q1))) := I1a.setc go1 _
  have F1 : ∀ (a : Nat) (c : AC), a ≠ o → Γ a = none → h a = some c → hup H1a o (6, [Value.null, .null, .null, .int 0, .int 0].set 0 (.ref q1)) a = some c ∧ G1 a = none := fun a c ha ga hc => by
    obtain ⟨u1, u2⟩ := (show h a = some c ∧ Γ a = none from ⟨hc, ga⟩)
    obtain ⟨u3, u4⟩ := f1 a c u2 u1
    rw [hup_ne _ _ ha]
    exact ⟨u3, u4⟩
  have S1 : Sub Γ G1 := s1
  generalize hup H1a o (6, [Value.null, .null, .null, .int 0, .int 0].set 0 (.ref q1)) = H1 at o1 I1 F1 
  iterate 2 refine fst1_ok X (dk rfl) rfl ?_
  rw [show (Int8.ofInt 8).toInt32 = nI 8 by decide +kernel]
  have e2 : (nI 8).toNatClampNeg = 8 := nI_clamp (by omega)
  refine newa7_ok X acInt (dk rfl) (nI_pos (by omega)) (by rw [e2]; omega) (Nat.le_of_ble_eq_true rfl) (by rw [e2]; exact Nat.le_of_ble_eq_true rfl) (fun q2 hq2 hBq2 => ?_)
  rw [e2]
  obtain ⟨G2, eG2⟩ : ∃ G, G = tup G1 q2 (rowφ 8) := ⟨_, rfl⟩
  have s2 : Sub G1 G2 := by rw [eG2]; exact tup_sub (I1.fresh hq2) _
  have t2 : G2 q2 = some (rowφ 8) := by rw [eG2]; exact tup_self _ _ _
  have I2a : Tyg G2 (hup H1 q2 (107, (List.replicate 8 (0 : Int32)).map Value.int)) := by rw [eG2]; exact (I1.newc hq2 _).add (hup_self _ _ _) (row_new 8)
  have K2 : KG G2 := by rw [eG2]; exact K1.add ck_row
  have f2 : ∀ (a : Nat) (c : AC), G1 a = none → H1 a = some c → hup H1 q2 (107, (List.replicate 8 (0 : Int32)).map Value.int) a = some c ∧ G2 a = none := fun a c ga hc => by
    have hne : a ≠ q2 := fun z => by rw [z, hq2] at hc; cases hc
    rw [hup_ne _ _ hne, eG2, tup_ne _ _ hne]
    exact ⟨hc, ga⟩
  obtain ⟨o2a, go2⟩ := f2 _ _ go1 o1
  generalize hup H1 q2 (107, (List.replicate 8 (0 : Int32)).map Value.int) = H2a at I2a f2 o2a
  refine putf_ok X flX4_20 ftX4_1 (Or.inr ⟨by rw [hnm]; rfl, RX4, TX4, 5, rfl, rfl⟩) rfl rfl (dk rfl) o2a (Nat.le_of_ble_eq_true rfl) ?_
  have o2 : hup H2a o (6, [.ref q1, .null, .null, .int 0, .int 0].set 1 (.ref q2)) o = some (6, [.ref q1, .ref q2, .null, .int 0, .int 0]) := hup_self _ _ _
  have I2 : Tyg G2 (hup H2a o (6, [.ref q1, .null, .null, .int 0, .int 0].set 1 (.ref q2))) := I2a.setc go2 _
  have F2 : ∀ (a : Nat) (c : AC), a ≠ o → Γ a = none → h a = some c → hup H2a o (6, [.ref q1, .null, .null, .int 0, .int 0].set 1 (.ref q2)) a = some c ∧ G2 a = none := fun a c ha ga hc => by
    obtain ⟨u1, u2⟩ := F1 a c ha ga hc
    obtain ⟨u3, u4⟩ := f2 a c u2 u1
    rw [hup_ne _ _ ha]
    exact ⟨u3, u4⟩
  have S2 : Sub Γ G2 := S1.trans s2
  generalize hup H2a o (6, [.ref q1, .null, .null, .int 0, .int 0].set 1 (.ref q2)) = H2 at o2 I2 F2 
  refine fst1_ok X (dk rfl) rfl ?_
  refine new_ok X nc4_24 (dk rfl) (by first | exact Nat.le_of_ble_eq_true rfl | (show _ ≤ _; omega)) (by first | exact Nat.le_of_ble_eq_true rfl | (show _ ≤ _; omega)) (fun q3 hq3 hBq3 => ?_)
  iterate 1 refine fst1_ok X (dk rfl) rfl ?_
  refine callIN_ok (av := []) (r := [.ref q3, .ref o]) X E (c2_init _ (I2.newc hq3 _) K2 (hup_self _ _ _) (I2.fresh hq3)) lkX2_init mnX4_26 lmX2_init rfl ⟨Nat.le_of_ble_eq_true rfl, Nat.le_of_ble_eq_true rfl⟩ ⟨Nat.le_of_ble_eq_true rfl, Nat.le_of_ble_eq_true rfl⟩ (Nat.le_of_ble_eq_true rfl) (dk rfl) ?_
  rintro v H3a ⟨rfl, N3⟩
  obtain ⟨G3, s3, t3, I3a, K3, f3⟩ := N3.toQ hq3
  obtain ⟨o3a, go3⟩ := f3 _ _ go2 o2
  refine putf_ok X flX4_27 ftX4_2 (Or.inr ⟨by rw [hnm]; rfl, RX4, TX4, 5, rfl, rfl⟩) rfl rfl (dk rfl) o3a (Nat.le_of_ble_eq_true rfl) ?_
  have o3 : hup H3a o (6, [.ref q1, .ref q2, .null, .int 0, .int 0].set 2 (.ref q3)) o = some (6, [.ref q1, .ref q2, .ref q3, .int 0, .int 0]) := hup_self _ _ _
  have I3 : Tyg G3 (hup H3a o (6, [.ref q1, .ref q2, .null, .int 0, .int 0].set 2 (.ref q3))) := I3a.setc go3 _
  have F3 : ∀ (a : Nat) (c : AC), a ≠ o → Γ a = none → h a = some c → hup H3a o (6, [.ref q1, .ref q2, .null, .int 0, .int 0].set 2 (.ref q3)) a = some c ∧ G3 a = none := fun a c ha ga hc => by
    obtain ⟨u1, u2⟩ := F2 a c ha ga hc
    obtain ⟨u3, u4⟩ := f3 a c u2 u1
    rw [hup_ne _ _ ha]
    exact ⟨u3, u4⟩
  have S3 : Sub Γ G3 := S2.trans s3
  generalize hup H3a o (6, [.ref q1, .ref q2, .null, .int 0, .int 0].set 2 (.ref q3)) = H3 at o3 I3 F3 
  refine retv_ok X hr hlk (dk rfl) ⟨rfl, tup G3 o (stepφ q1 q2 q3), ?_, ?_, ?_, ?_, ?_, ?_⟩ (Nat.le_of_ble_eq_true rfl) (Nat.le_of_ble_eq_true rfl)
  · exact S3.trans (tup_sub go3 _)
  · have z := tup_sub go3 (stepφ q1 q2 q3)
    exact ⟨q1, q2, q3, tup_self _ _ _, TermT.mono ((s2.trans s3).trans z) t1, (s3.trans z) _ _ t2, PairsT.mono z t3⟩
  · exact I3.add o3 ⟨_, _, rfl⟩
  · exact K3.add ck_step
  · exact fun a c ha ga hc => (F3 a c ha ga hc).1
  · intro a ga hc ha
    cases hz : h a with
    | none => exact absurd hz hc
    | some c =>
      rw [tup_ne _ _ ha]
      exact (F3 a c ha ga hz).2
set_option maxHeartbeats 8000000 in
theorem c1_init (h : AH) {Γ : TY} (I : Tyg Γ h) (K : KG Γ) {o : Nat} (ho : h o = some (3, [.null, .null, .null, .null, .null])) (go : Γ o = none) : CT la D cA B0 pa yX1_init cX1_init 1 none (rmD 2 8 366) [.ref o] h (fun v h' => v = none ∧ NewP Γ o h (fun Γ' => ClassT Γ' o) h') := by
  refine CT_of (by decide +kernel) (Nat.le_of_ble_eq_true rfl) ?_
  intro p e s m args below meth c X E hr hlk hnm
  have dk : ∀ {pc : Nat} {q : Instr × Nat}, lkd DX1_init pc = some q → decode cX1_init pc = .ok q := lkd_ok DX1_init_ok
  refine fst1_ok X (dk rfl) rfl ?_
  refine obj_ok X ml1_obj (dk rfl) (Nat.le_of_ble_eq_true rfl) (Nat.le_of_ble_eq_true rfl) (Nat.le_of_ble_eq_true rfl) ?_
  refine fst1_ok X (dk rfl) rfl ?_
  refine new_ok X nc1_9 (dk rfl) (by first | exact Nat.le_of_ble_eq_true rfl | (show _ ≤ _; omega)) (by first | exact Nat.le_of_ble_eq_true rfl | (show _ ≤ _; omega)) (fun q1 hq1 hBq1 => ?_)
  iterate 2 refine fst1_ok X (dk rfl) rfl ?_
  rw [show (Int8.ofInt 32).toInt32 = nI 32 by decide +kernel]
  refine callI_ok (av := [.int (nI 32)]) (r := [.ref q1, .ref o]) X E (c5_init _ (I.newc hq1 _) K (L := 32) (by omega) (hup_self _ _ _) (I.fresh hq1)) lkX5_init mlX1_13 lmX5_init rfl ⟨Nat.le_of_ble_eq_true rfl, Nat.le_of_ble_eq_true rfl⟩ ⟨Nat.le_of_ble_eq_true rfl, Nat.le_of_ble_eq_true rfl⟩ (Nat.le_of_ble_eq_true rfl) (dk rfl) ?_
  rintro v H1a ⟨rfl, N1⟩
  obtain ⟨G1, s1, t1, I1a, K1, f1⟩ := N1.toQ hq1
  obtain ⟨o1a, go1⟩ := f1 _ _ go ho
  refine putf_ok X flX1_16 ftX1_0 (Or.inr ⟨by rw [hnm]; rfl, RX1, TX1, 5, rfl, rfl⟩) rfl rfl (dk rfl) o1a (Nat.le_of_ble_eq_true rfl) ?_
  have o1 : hup H1a o (3, [Value.null, .null, .null, .null, .null].set 0 (.ref q1)) o = some (3, [.ref q1, .null, .null, .null, .null]) := hup_self _ _ _
  have I1 : Tyg G1 (hup H1a o (3, [Value.null, .null, .null, .null, .null].set 0 (.ref q1))) := I1a.setc go1 _
  have F1 : ∀ (a : Nat) (c : AC), a ≠ o → Γ a = none → h a = some c → hup H1a o (3, [Value.null, .null, .null, .null, .null].set 0 (.ref q1)) a = some c ∧ G1 a = none := fun a c ha ga hc => by
    obtain ⟨u1, u2⟩ := (show h a = some c ∧ Γ a = none from ⟨hc, ga⟩)
    obtain ⟨u3, u4⟩ := f1 a c u2 u1
    rw [hup_ne _ _ ha]
    exact ⟨u3, u4⟩
  have S1 : Sub Γ G1 := s1
  generalize hup H1a o (3, [Value.null, .null, .null, .null, .null].set 0 (.ref q1)) = H1 at o1 I1 F1 
  iterate 2 refine fst1_ok X (dk rfl) rfl ?_
  rw [show (Int8.ofInt 32).toInt32 = nI 32 by decide +kernel]
  have e2 : (nI 32).toNatClampNeg = 32 := nI_clamp (by omega)
  refine newa7_ok X acInt (dk rfl) (nI_pos (by omega)) (by rw [e2]; omega) (Nat.le_of_ble_eq_true rfl) (by rw [e2]; exact Nat.le_of_ble_eq_true rfl) (fun q2 hq2 hBq2 => ?_)
  rw [e2]
  obtain ⟨G2, eG2⟩ : ∃ G, G = tup G1 q2 (rowφ 32) := ⟨_, rfl⟩
  have s2 : Sub G1 G2 := by rw [eG2]; exact tup_sub (I1.fresh hq2) _
  have t2 : G2 q2 = some (rowφ 32) := by rw [eG2]; exact tup_self _ _ _
  have I2a : Tyg G2 (hup H1 q2 (107, (List.replicate 32 (0 : Int32)).map Value.int)) := by rw [eG2]; exact (I1.newc hq2 _).add (hup_self _ _ _) (row_new 32)
  have K2 : KG G2 := by rw [eG2]; exact K1.add ck_row
  have f2 : ∀ (a : Nat) (c : AC), G1 a = none → H1 a = some c → hup H1 q2 (107, (List.replicate 32 (0 : Int32)).map Value.int) a = some c ∧ G2 a = none := fun a c ga hc => by
    have hne : a ≠ q2 := fun z => by rw [z, hq2] at hc; cases hc
    rw [hup_ne _ _ hne, eG2, tup_ne _ _ hne]
    exact ⟨hc, ga⟩
  obtain ⟨o2a, go2⟩ := f2 _ _ go1 o1
  generalize hup H1 q2 (107, (List.replicate 32 (0 : Int32)).map Value.int) = H2a at I2a f2 o2a
  refine putf_ok X flX1_20 ftX1_1 (Or.inr ⟨by rw [hnm]; rfl, RX1, TX1, 5, rfl, rfl⟩) rfl rfl (dk rfl) o2a (Nat.le_of_ble_eq_true rfl) ?_
  have o2 : hup H2a o (3, [.ref q1, .null, .null, .null, .null].set 1 (.ref q2)) o = some (3, [.ref q1, .ref q2, .null, .null, .null]) := hup_self _ _ _
  have I2 : Tyg G2 (hup H2a o (3, [.ref q1, .null, .null, .null, .null].set 1 (.ref q2))) := I2a.setc go2 _
  have F2 : ∀ (a : Nat) (c : AC), a ≠ o → Γ a = none → h a = some c → hup H2a o (3, [.ref q1, .null, .null, .null, .null].set 1 (.ref q2)) a = some c ∧ G2 a = none := fun a c ha ga hc => by
    obtain ⟨u1, u2⟩ := F1 a c ha ga hc
    obtain ⟨u3, u4⟩ := f2 a c u2 u1
    rw [hup_ne _ _ ha]
    exact ⟨u3, u4⟩
  have S2 : Sub Γ G2 := S1.trans s2
  generalize hup H2a o (3, [.ref q1, .null, .null, .null, .null].set 1 (.ref q2)) = H2 at o2 I2 F2 
  iterate 2 refine fst1_ok X (dk rfl) rfl ?_
  rw [show (Int8.ofInt 32).toInt32 = nI 32 by decide +kernel]
  have e3 : (nI 32).toNatClampNeg = 32 := nI_clamp (by omega)
  refine newa7_ok X acInt (dk rfl) (nI_pos (by omega)) (by rw [e3]; omega) (Nat.le_of_ble_eq_true rfl) (by rw [e3]; exact Nat.le_of_ble_eq_true rfl) (fun q3 hq3 hBq3 => ?_)
  rw [e3]
  obtain ⟨G3, eG3⟩ : ∃ G, G = tup G2 q3 (rowφ 32) := ⟨_, rfl⟩
  have s3 : Sub G2 G3 := by rw [eG3]; exact tup_sub (I2.fresh hq3) _
  have t3 : G3 q3 = some (rowφ 32) := by rw [eG3]; exact tup_self _ _ _
  have I3a : Tyg G3 (hup H2 q3 (107, (List.replicate 32 (0 : Int32)).map Value.int)) := by rw [eG3]; exact (I2.newc hq3 _).add (hup_self _ _ _) (row_new 32)
  have K3 : KG G3 := by rw [eG3]; exact K2.add ck_row
  have f3 : ∀ (a : Nat) (c : AC), G2 a = none → H2 a = some c → hup H2 q3 (107, (List.replicate 32 (0 : Int32)).map Value.int) a = some c ∧ G3 a = none := fun a c ga hc => by
    have hne : a ≠ q3 := fun z => by rw [z, hq3] at hc; cases hc
    rw [hup_ne _ _ hne, eG3, tup_ne _ _ hne]
    exact ⟨hc, ga⟩
  obtain ⟨o3a, go3⟩ := f3 _ _ go2 o2
  generalize hup H2 q3 (107, (List.replicate 32 (0 : Int32)).map Value.int) = H3a at I3a f3 o3a
  refine putf_ok X flX1_24 ftX1_2 (Or.inr ⟨by rw [hnm]; rfl, RX1, TX1, 5, rfl, rfl⟩) rfl rfl (dk rfl) o3a (Nat.le_of_ble_eq_true rfl) ?_
  have o3 : hup H3a o (3, [.ref q1, .ref q2, .null, .null, .null].set 2 (.ref q3)) o = some (3, [.ref q1, .ref q2, .ref q3, .null, .null]) := hup_self _ _ _
  have I3 : Tyg G3 (hup H3a o (3, [.ref q1, .ref q2, .null, .null, .null].set 2 (.ref q3))) := I3a.setc go3 _
  have F3 : ∀ (a : Nat) (c : AC), a ≠ o → Γ a = none → h a = some c → hup H3a o (3, [.ref q1, .ref q2, .null, .null, .null].set 2 (.ref q3)) a = some c ∧ G3 a = none := fun a c ha ga hc => by
    obtain ⟨u1, u2⟩ := F2 a c ha ga hc
    obtain ⟨u3, u4⟩ := f3 a c u2 u1
    rw [hup_ne _ _ ha]
    exact ⟨u3, u4⟩
  have S3 : Sub Γ G3 := S2.trans s3
  generalize hup H3a o (3, [.ref q1, .ref q2, .null, .null, .null].set 2 (.ref q3)) = H3 at o3 I3 F3 
  iterate 2 refine fst1_ok X (dk rfl) rfl ?_
  rw [show (Int8.ofInt 8).toInt32 = nI 8 by decide +kernel]
  have e4 : (nI 8).toNatClampNeg = 8 := nI_clamp (by omega)
  refine newa7_ok X acInt (dk rfl) (nI_pos (by omega)) (by rw [e4]; omega) (Nat.le_of_ble_eq_true rfl) (by rw [e4]; exact Nat.le_of_ble_eq_true rfl) (fun q4 hq4 hBq4 => ?_)
  rw [e4]
  obtain ⟨G4, eG4⟩ : ∃ G, G = tup G3 q4 (rowφ 8) := ⟨_, rfl⟩
  have s4 : Sub G3 G4 := by rw [eG4]; exact tup_sub (I3.fresh hq4) _
  have t4 : G4 q4 = some (rowφ 8) := by rw [eG4]; exact tup_self _ _ _
  have I4a : Tyg G4 (hup H3 q4 (107, (List.replicate 8 (0 : Int32)).map Value.int)) := by rw [eG4]; exact (I3.newc hq4 _).add (hup_self _ _ _) (row_new 8)
  have K4 : KG G4 := by rw [eG4]; exact K3.add ck_row
  have f4 : ∀ (a : Nat) (c : AC), G3 a = none → H3 a = some c → hup H3 q4 (107, (List.replicate 8 (0 : Int32)).map Value.int) a = some c ∧ G4 a = none := fun a c ga hc => by
    have hne : a ≠ q4 := fun z => by rw [z, hq4] at hc; cases hc
    rw [hup_ne _ _ hne, eG4, tup_ne _ _ hne]
    exact ⟨hc, ga⟩
  obtain ⟨o4a, go4⟩ := f4 _ _ go3 o3
  generalize hup H3 q4 (107, (List.replicate 8 (0 : Int32)).map Value.int) = H4a at I4a f4 o4a
  refine putf_ok X flX1_27 ftX1_3 (Or.inr ⟨by rw [hnm]; rfl, RX1, TX1, 5, rfl, rfl⟩) rfl rfl (dk rfl) o4a (Nat.le_of_ble_eq_true rfl) ?_
  have o4 : hup H4a o (3, [.ref q1, .ref q2, .ref q3, .null, .null].set 3 (.ref q4)) o = some (3, [.ref q1, .ref q2, .ref q3, .ref q4, .null]) := hup_self _ _ _
  have I4 : Tyg G4 (hup H4a o (3, [.ref q1, .ref q2, .ref q3, .null, .null].set 3 (.ref q4))) := I4a.setc go4 _
  have F4 : ∀ (a : Nat) (c : AC), a ≠ o → Γ a = none → h a = some c → hup H4a o (3, [.ref q1, .ref q2, .ref q3, .null, .null].set 3 (.ref q4)) a = some c ∧ G4 a = none := fun a c ha ga hc => by
    obtain ⟨u1, u2⟩ := F3 a c ha ga hc
    obtain ⟨u3, u4⟩ := f4 a c u2 u1
    rw [hup_ne _ _ ha]
    exact ⟨u3, u4⟩
  have S4 : Sub Γ G4 := S3.trans s4
  generalize hup H4a o (3, [.ref q1, .ref q2, .ref q3, .null, .null].set 3 (.ref q4)) = H4 at o4 I4 F4 
  refine fst1_ok X (dk rfl) rfl ?_
  refine new_ok X nc1_30 (dk rfl) (by first | exact Nat.le_of_ble_eq_true rfl | (show _ ≤ _; omega)) (by first | exact Nat.le_of_ble_eq_true rfl | (show _ ≤ _; omega)) (fun q5 hq5 hBq5 => ?_)
  iterate 1 refine fst1_ok X (dk rfl) rfl ?_
  refine callIN_ok (av := []) (r := [.ref q5, .ref o]) X E (c2_init _ (I4.newc hq5 _) K4 (hup_self _ _ _) (I4.fresh hq5)) lkX2_init mnX1_32 lmX2_init rfl ⟨Nat.le_of_ble_eq_true rfl, Nat.le_of_ble_eq_true rfl⟩ ⟨Nat.le_of_ble_eq_true rfl, Nat.le_of_ble_eq_true rfl⟩ (Nat.le_of_ble_eq_true rfl) (dk rfl) ?_
  rintro v H5a ⟨rfl, N5⟩
  obtain ⟨G5, s5, t5, I5a, K5, f5⟩ := N5.toQ hq5
  obtain ⟨o5a, go5⟩ := f5 _ _ go4 o4
  refine putf_ok X flX1_33 ftX1_4 (Or.inr ⟨by rw [hnm]; rfl, RX1, TX1, 5, rfl, rfl⟩) rfl rfl (dk rfl) o5a (Nat.le_of_ble_eq_true rfl) ?_
  have o5 : hup H5a o (3, [.ref q1, .ref q2, .ref q3, .ref q4, .null].set 4 (.ref q5)) o = some (3, [.ref q1, .ref q2, .ref q3, .ref q4, .ref q5]) := hup_self _ _ _
  have I5 : Tyg G5 (hup H5a o (3, [.ref q1, .ref q2, .ref q3, .ref q4, .null].set 4 (.ref q5))) := I5a.setc go5 _
  have F5 : ∀ (a : Nat) (c : AC), a ≠ o → Γ a = none → h a = some c → hup H5a o (3, [.ref q1, .ref q2, .ref q3, .ref q4, .null].set 4 (.ref q5)) a = some c ∧ G5 a = none := fun a c ha ga hc => by
    obtain ⟨u1, u2⟩ := F4 a c ha ga hc
    obtain ⟨u3, u4⟩ := f5 a c u2 u1
    rw [hup_ne _ _ ha]
    exact ⟨u3, u4⟩
  have S5 : Sub Γ G5 := S4.trans s5
  generalize hup H5a o (3, [.ref q1, .ref q2, .ref q3, .ref q4, .null].set 4 (.ref q5)) = H5 at o5 I5 F5 
  refine retv_ok X hr hlk (dk rfl) ⟨rfl, tup G5 o (isφ (3, [.ref q1, .ref q2, .ref q3, .ref q4, .ref q5])), ?_, ?_, ?_, ?_, ?_, ?_⟩ (Nat.le_of_ble_eq_true rfl) (Nat.le_of_ble_eq_true rfl)
  · exact S5.trans (tup_sub go5 _)
  · have z := tup_sub go5 (isφ (3, [.ref q1, .ref q2, .ref q3, .ref q4, .ref q5]))
    exact ⟨q1, q2, q3, q4, q5, tup_self _ _ _, TermT.mono ((((s2.trans s3).trans s4).trans s5).trans z) t1, (((s3.trans s4).trans s5).trans z) _ _ t2, ((s4.trans s5).trans z) _ _ t3, (s5.trans z) _ _ t4, PairsT.mono z t5⟩
  · exact I5.add o5 rfl
  · exact K5.add (ck_is rfl)
  · exact fun a c ha ga hc => (F5 a c ha ga hc).1
  · intro a ga hc ha
    cases hz : h a with
    | none => exact absurd hz hc
    | some c =>
      rw [tup_ne _ _ ha]
      exact (F5 a c ha ga hz).2
end M98c
