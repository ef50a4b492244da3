/-! the constructors of the class: types for new cells (printed by wip/p40/genInit.py) -/
def Sub (Γ Γ' : TY) : Prop := ∀ (a : Nat) (φ : AC → Prop), Γ a = some φ → Γ' a = some φ
theorem Sub.rf (Γ : TY) : Sub Γ Γ := fun _ _ h => h
theorem Sub.trans {Γ Γ1 Γ2 : TY} (a : Sub Γ Γ1) (b : Sub Γ1 Γ2) : Sub Γ Γ2 := fun x φ h => b x φ (a x φ h)
theorem TermT.mono {Γ Γ' : TY} (S : Sub Γ Γ') {b L : Nat} (T : TermT Γ b L) : TermT Γ' b L := by
  obtain ⟨h, q, g1, g2⟩ := T
  exact ⟨h, q, S _ _ g1, S _ _ g2⟩
theorem PairsT.mono {Γ Γ' : TY} (S : Sub Γ Γ') {b : Nat} (T : PairsT Γ b) : PairsT Γ' b := by
  obtain ⟨x, y, g1, g2, g3⟩ := T
  exact ⟨x, y, S _ _ g1, S _ _ g2, S _ _ g3⟩
theorem AnsT.mono {Γ Γ' : TY} (S : Sub Γ Γ') {b : Nat} (T : AnsT Γ b) : AnsT Γ' b := by
  obtain ⟨x, y, g1, g2, g3, g4⟩ := T
  exact ⟨x, y, S _ _ g1, S _ _ g2, g3, fun t ht => (g4 t ht).mono S⟩
theorem StepsT.mono {Γ Γ' : TY} (S : Sub Γ Γ') {b : Nat} (T : StepsT Γ b) : StepsT Γ' b := by
  obtain ⟨x, y, z, g1, g2, g3, g4⟩ := T
  exact ⟨x, y, z, S _ _ g1, g2.mono S, S _ _ g3, g4.mono S⟩
theorem ClassT.mono {Γ Γ' : TY} (S : Sub Γ Γ') {b : Nat} (T : ClassT Γ b) : ClassT Γ' b := by
  obtain ⟨x, y, z, u, w, g1, g2, g3, g4, g5, g6⟩ := T
  exact ⟨x, y, z, u, w, S _ _ g1, g2.mono S, S _ _ g3, S _ _ g4, S _ _ g5, g6.mono S⟩
theorem ShapeT.mono {Γ Γ' : TY} (S : Sub Γ Γ') {b : Nat} (T : ShapeT Γ b) : ShapeT Γ' b := by
  obtain ⟨x, g1, g2⟩ := T
  exact ⟨x, S _ _ g1, g2.mono S⟩
/-- types are of the class's kinds -/
def KG (Γ : TY) : Prop := ∀ (a : Nat) (φ : AC → Prop), Γ a = some φ → ∀ c, φ c → ck c.1 = true
def tup (Γ : TY) (q : Nat) (φ : AC → Prop) : TY := fun a => if a = q then some φ else Γ a
theorem tup_self (Γ : TY) (q : Nat) (φ : AC → Prop) : tup Γ q φ q = some φ := if_pos rfl
theorem tup_ne (Γ : TY) {a q : Nat} (φ : AC → Prop) (h : a ≠ q) : tup Γ q φ a = Γ a := if_neg h
theorem Tyg.fresh {Γ : TY} {h : AH} (I : Tyg Γ h) {q : Nat} (hq : h q = none) : Γ q = none := by
  cases e : Γ q with
  | none => rfl
  | some φ => obtain ⟨c, hc, -⟩ := I q φ e; rw [hq] at hc; cases hc
theorem Tyg.frame {Γ : TY} {h h' : AH} (I : Tyg Γ h) (hk : ∀ (a : Nat) (φ : AC → Prop), Γ a = some φ → h' a = h a) : Tyg Γ h' := fun a φ e => by
  rw [hk a φ e]
  exact I a φ e
theorem Tyg.add {Γ : TY} {h : AH} (I : Tyg Γ h) {q : Nat} {c : AC} {φ : AC → Prop} (hq : h q = some c) (hc : φ c) : Tyg (tup Γ q φ) h := by
  intro a ψ e
  by_cases z : a = q
  · rw [z, tup_self] at e
    cases e
    exact ⟨c, by rw [z]; exact hq, hc⟩
  · rw [tup_ne _ _ z] at e
    exact I a ψ e
theorem KG.add {Γ : TY} (K : KG Γ) {q : Nat} {φ : AC → Prop} (hφ : ∀ c, φ c → ck c.1 = true) : KG (tup Γ q φ) := by
  intro a ψ e
  by_cases z : a = q
  · rw [z, tup_self] at e
    cases e
    exact hφ
  · rw [tup_ne _ _ z] at e
    exact K a ψ e
theorem Tyg.setc {Γ : TY} {h : AH} (I : Tyg Γ h) {q : Nat} (gq : Γ q = none) (c : AC) : Tyg Γ (hup h q c) := I.frame (fun a φ e => hup_ne _ _ (fun z => by rw [z, gq] at e; cases e))
set_option maxRecDepth 100000 in
theorem acInt : Cond.arrayClass .int ∈ WT := WT_of (by decide +kernel) rfl
set_option maxRecDepth 100000 in
theorem ml0_obj : Cond.methodLink RX0 3 Lib.objectInit ∈ WT := WT_of (tbw_1 (List.mem_of_getElem? (i := 64) rfl)) rfl
set_option maxRecDepth 100000 in
theorem ml1_obj : Cond.methodLink RX1 3 Lib.objectInit ∈ WT := WT_of (tbw_1 (List.mem_of_getElem? (i := 128) rfl)) rfl
set_option maxRecDepth 100000 in
theorem ml2_obj : Cond.methodLink RX2 3 Lib.objectInit ∈ WT := WT_of (tbw_1 (List.mem_of_getElem? (i := 96) rfl)) rfl
set_option maxRecDepth 100000 in
theorem ml3_obj : Cond.methodLink RX3 3 Lib.objectInit ∈ WT := WT_of (tbw_1 (List.mem_of_getElem? (i := 154) rfl)) rfl
set_option maxRecDepth 100000 in
theorem ml4_obj : Cond.methodLink RX4 3 Lib.objectInit ∈ WT := WT_of (tbw_1 (List.mem_of_getElem? (i := 88) rfl)) rfl
set_option maxRecDepth 100000 in
theorem ml5_obj : Cond.methodLink RX5 3 Lib.objectInit ∈ WT := WT_of (tbw_1 (List.mem_of_getElem? (i := 45) rfl)) rfl
set_option maxRecDepth 100000 in
theorem ml6_obj : Cond.methodLink RX6 1 Lib.objectInit ∈ WT := WT_of (tbw_1 (List.mem_of_getElem? (i := 34) rfl)) rfl
theorem nc0_9 : NC RX0 9 7 [.null, .int 0, .int 0] := by
  refine ⟨RX5, TX5, 3, tyX5, rfl, cwX5, tyX5_ok, rfl, fun j hj => ?_, WT_of (by decide +kernel) rfl, WT_of (by decide +kernel) rfl, liX5⟩
  match j, hj with
  | 0, _ => rfl
  | 1, _ => rfl
  | 2, _ => rfl
theorem nc4_9 : NC RX4 9 7 [.null, .int 0, .int 0] := by
  refine ⟨RX5, TX5, 3, tyX5, rfl, cwX5, tyX5_ok, rfl, fun j hj => ?_, WT_of (by decide +kernel) rfl, WT_of (by decide +kernel) rfl, liX5⟩
  match j, hj with
  | 0, _ => rfl
  | 1, _ => rfl
  | 2, _ => rfl
theorem nc4_24 : NC RX4 24 4 [.null, .null, .int 0] := by
  refine ⟨RX2, TX2, 3, tyX2, rfl, cwX2, tyX2_ok, rfl, fun j hj => ?_, WT_of (by decide +kernel) rfl, WT_of (by decide +kernel) rfl, liX2⟩
  match j, hj with
  | 0, _ => rfl
  | 1, _ => rfl
  | 2, _ => rfl
theorem nc1_9 : NC RX1 9 7 [.null, .int 0, .int 0] := by
  refine ⟨RX5, TX5, 3, tyX5, rfl, cwX5, tyX5_ok, rfl, fun j hj => ?_, WT_of (by decide +kernel) rfl, WT_of (by decide +kernel) rfl, liX5⟩
  match j, hj with
  | 0, _ => rfl
  | 1, _ => rfl
  | 2, _ => rfl
theorem nc1_30 : NC RX1 30 4 [.null, .null, .int 0] := by
  refine ⟨RX2, TX2, 3, tyX2, rfl, cwX2, tyX2_ok, rfl, fun j hj => ?_, WT_of (by decide +kernel) rfl, WT_of (by decide +kernel) rfl, liX2⟩
  match j, hj with
  | 0, _ => rfl
  | 1, _ => rfl
  | 2, _ => rfl
theorem nc3_9 : NC RX3 9 4 [.null, .null, .int 0] := by
  refine ⟨RX2, TX2, 3, tyX2, rfl, cwX2, tyX2_ok, rfl, fun j hj => ?_, WT_of (by decide +kernel) rfl, WT_of (by decide +kernel) rfl, liX2⟩
  match j, hj with
  | 0, _ => rfl
  | 1, _ => rfl
  | 2, _ => rfl
theorem nc6_9 : NC RX6 9 7 [.null, .int 0, .int 0] := by
  refine ⟨RX5, TX5, 3, tyX5, rfl, cwX5, tyX5_ok, rfl, fun j hj => ?_, WT_of (by decide +kernel) rfl, WT_of (by decide +kernel) rfl, liX5⟩
  match j, hj with
  | 0, _ => rfl
  | 1, _ => rfl
  | 2, _ => rfl
theorem nc6_15 : NC RX6 15 2 [.null] := by
  refine ⟨RX0, TX0, 1, tyX0, rfl, cwX0, tyX0_ok, rfl, fun j hj => ?_, WT_of (by decide +kernel) rfl, WT_of (by decide +kernel) rfl, liX0⟩
  match j, hj with
  | 0, _ => rfl
theorem nc6_45 : NC RX6 45 6 [.null, .null, .null, .int 0, .int 0] := by
  refine ⟨RX4, TX4, 5, tyX4, rfl, cwX4, tyX4_ok, rfl, fun j hj => ?_, WT_of (by decide +kernel) rfl, WT_of (by decide +kernel) rfl, liX4⟩
  match j, hj with
  | 0, _ => rfl
  | 1, _ => rfl
  | 2, _ => rfl
  | 3, _ => rfl
  | 4, _ => rfl
theorem nc6_52 : NC RX6 52 3 [.null, .null, .null, .null, .null] := by
  refine ⟨RX1, TX1, 5, tyX1, rfl, cwX1, tyX1_ok, rfl, fun j hj => ?_, WT_of (by decide +kernel) rfl, WT_of (by decide +kernel) rfl, liX1⟩
  match j, hj with
  | 0, _ => rfl
  | 1, _ => rfl
  | 2, _ => rfl
  | 3, _ => rfl
  | 4, _ => rfl
theorem nc6_59 : NC RX6 59 5 [.null] := by
  refine ⟨RX3, TX3, 1, tyX3, rfl, cwX3, tyX3_ok, rfl, fun j hj => ?_, WT_of (by decide +kernel) rfl, WT_of (by decide +kernel) rfl, liX3⟩
  match j, hj with
  | 0, _ => rfl
section CIN
variable {p : Program} {la : Launch} {e : Env} {R : Room} {s : State} {m : MethodId} {args : Array Value} {below : List Frame} {meth : Method} {c : Code} {Q : State → Prop}
variable {D : va_G} {cA : Nat → ClassId} {B0 pa nL : Nat} {cc : ByteArray} {own : String} {pc k n : Nat} {l : List (Nat × Value)} {r : List Value} {h : AH}
theorem callIN_ok (X : CX p s m args c D cA B0 nL cc own) (E : EN D cA B0 pa s) {y : MethodName} {host : String} {bytes : ByteArray} {maxL idx b : Nat} {rm : Room} {av : List Value} {post : Option Value → AH → Prop}
    (hM : CT la D cA B0 pa y bytes maxL none rm (.ref b :: av) h post) (hL : LK y bytes maxL av.length none) (hl : Cond.methodLinkNest own idx y host ∈ lw_tbl) (hi : Cond.instanceMethod y ∈ WT) (hn : y.name = "<init>") (hR : rm.frames + 1 ≤ R.frames ∧ 8 + (maxL + 11) + rm.locals ≤ R.locals) (hf : k + rm.cells ≤ R.cells ∧ n + rm.slots ≤ R.slots)
    (hW : (r.map fun v => v.category).sum ≤ 8) (hd : decode cc pc = .ok (.invokespecial idx, 3))
    (kk : ∀ (v : Option Value) (h' : AH), post v h' → WS p la e R s m args below meth c Q D cA B0 nL (pc + 3) l (v.toList ++ r) h' (k + rm.cells) (n + rm.slots)) : WS p la e R s m args below meth c Q D cA B0 nL pc l (av.reverse ++ .ref b :: r) h k n :=
  run_ok (idx := idx) (As := (Value.ref b :: av).toArray) X.2.2.2.2.2.2 (fun H locs ls hH hls => va_runIN (fix_ok X) hM ⟨va_cnB av.length X.2.2.2.2.1 (WT_goodIn y bytes maxL none hL.1) rfl rfl rfl (E.2.1 _ hl rfl) (X.2.2.2.2.1 _ hL.2.1) ⟨hL.2.2.1.1, hL.2.2.1.2, hL.2.2.2⟩ hR, hn, X.2.2.2.2.1 _ hi⟩ (preS_of X E hH (.ref b :: av)) rfl rfl hls.1 rfl (lv_room hW) hd hf) kk
end CIN
section M98c
variable {la : Launch} {D : va_G} {cA : Nat → ClassId} {B0 pa : Nat}
end M98c
