/-! guards at the walk, give, isPlace, become -/
section M38
variable {p : Program} {la : Launch} {e : Env} {R : Room} {s : State} {m : MethodId} {args : Array Value} {below : List Frame} {meth : Method} {c : Code} {Q : State → Prop}
variable {D : va_G} {cA : Nat → ClassId} {B0 pa nL : Nat} {cc : ByteArray} {own : String} {pc k n : Nat} {l : List (Nat × Value)} {r : List Value} {h : AH}
variable {o S A : Nat} {sl : List (List Nat)} {an : List (List (List Nat))} {a r' kn th : Int32}
/-- what a call of the reference leaves -/
def MI (o S A : Nat) (kn : Int32) (h h' : AH) : Prop := (∃ sl an a r th, MD h' o S A sl an a r kn th) ∧ Fr o S A h h'
theorem MD.mi (M : MD h o S A sl an a r' kn th) : MI o S A kn h h := ⟨⟨_, _, _, _, _, M⟩, Fr.rf h⟩
theorem MC.mi {h' : AH} (M : MC o S A sl an kn h h') : MI o S A kn h h' := ⟨⟨_, _, M.1.choose_spec.choose_spec.choose_spec |> fun q => ⟨_, _, _, q⟩⟩, M.2⟩
theorem MI.trans {h1 h2 : AH} (F : Fr o S A h h1) (M : MI o S A kn h1 h2) : MI o S A kn h h2 := ⟨M.1, F.trans M.2⟩
/-- a load from an array of arrays of rows -/
theorem lda_ok (X : CX p s m args c D cA B0 nL cc own) {a j q : Nat} {as : List Nat} (hd : decode cc pc = .ok (.aaload, 1)) (ha : h a = some (106, as.map Value.ref)) (hq : as[j]? = some q) (hl : as.length < 2 ^ 31)
    (kk : WS p la e R s m args below meth c Q D cA B0 nL (pc + 1) l (.ref q :: r) h k n) : WS p la e R s m args below meth c Q D cA B0 nL pc l (.int (nI j) :: .ref a :: r) h k n :=
  ald_ok X (Or.inr (Or.inr ⟨rfl, by decide⟩)) hd ha (inA_nI (v := .ref q) (by have := (List.getElem?_eq_some_iff.mp hq).1; omega) (by rw [List.getElem?_map, hq]; rfl)) kk
/-- a store into an array of arrays of rows -/
theorem sta_ok (X : CX p s m args c D cA B0 nL cc own) {a j q : Nat} {vs fs : List Value} (hd : decode cc pc = .ok (.aastore, 1)) (ha : h a = some (106, vs)) (hq : h q = some (105, fs)) (hj : j < vs.length) (hl : vs.length < 2 ^ 31)
    (kk : WS p la e R s m args below meth c Q D cA B0 nL (pc + 1) l r (hup h a (106, vs.set j (.ref q))) k n) : WS p la e R s m args below meth c Q D cA B0 nL pc l (.ref q :: .int (nI j) :: .ref a :: r) h k n := by
  have e : (nI j).toNatClampNeg = j := nI_clamp (by omega)
  refine ast_ok X (Or.inr (Or.inr (Or.inr (Or.inr (Or.inr ⟨rfl, rfl, q, fs, rfl, hq⟩))))) hd ha ⟨nI_pos (by omega), by rw [e]; exact hj⟩ ?_
  rw [e]
  exact kk
end M38
section M38b
variable {la : Launch} {D : va_G} {cA : Nat → ClassId} {B0 pa : Nat} {o S A : Nat} {sl : List (List Nat)} {an : List (List (List Nat))} {a r kn th : Int32}
theorem nI_16 : (Int8.ofInt 16).toInt32 = nI 16 := by decide +kernel
end M38b
