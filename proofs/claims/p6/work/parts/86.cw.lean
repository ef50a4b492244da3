/-! calls among the class's methods: readers (the picture stays) and writers (the types stay) -/
abbrev RdO (P : Option Value → Prop) (h : AH) : Option Value → AH → Prop := fun v h' => P v ∧ h' = h
abbrev WrO (Γ : TY) (P : Option Value → Prop) (h : AH) : Option Value → AH → Prop := fun v h' => P v ∧ TI Γ h h'
def iP (v : Option Value) : Prop := ∃ x : Int32, v = some (.int x)
def bP (v : Option Value) : Prop := ∃ b : Bool, v = some (.int (bI b))
def voidP (v : Option Value) : Prop := v = none
def nP (N : Nat) (v : Option Value) : Prop := ∃ n : Nat, n ≤ N ∧ v = some (vI n)
def jP (v : Option Value) : Prop := ∃ x : Int64, v = some (.long x)
/-- what is thrown: one of these, the types stay -/
def pxW (S : List String) (Γ : TY) (h : AH) : String → AH → Prop := fun E h' => E ∈ S ∧ TI Γ h h'
def ioobe : String := "java/lang/IndexOutOfBoundsException"
def iae : String := "java/lang/IllegalArgumentException"
theorem bI_nz {b : Bool} (h : ¬ bI b = 0) : b = true := by
  cases b
  · exact absurd rfl h
  · rfl
theorem bI_z {b : Bool} (h : bI b = 0) : b = false := by
  cases b
  · rfl
  · exact absurd h (by decide)
theorem is_cell {Γ : TY} {h : AH} (I : Tyg Γ h) {b k : Nat} {fs : List Value} (g : Γ b = some (isφ (k, fs))) : ∃ fs, h b = some (k, fs) := ⟨_, is_open I g⟩
theorem pr_cell {Γ : TY} {h : AH} (I : Tyg Γ h) {b x y : Nat} (g : Γ b = some (pairφ x y)) : ∃ fs, h b = some (4, fs) := by
  obtain ⟨w, h1, -⟩ := pr_open I g
  exact ⟨_, h1⟩
theorem st_cell {Γ : TY} {h : AH} (I : Tyg Γ h) {b x y z : Nat} (g : Γ b = some (stepφ x y z)) : ∃ fs, h b = some (6, fs) := by
  obtain ⟨t, e, h1⟩ := st_open I g
  exact ⟨_, h1⟩
theorem tm_zero {q L f : Nat} {t : Bool} (hf : f ≤ L) : termφ q L (7, ([.ref q, vI f, .int (bI t)] : List Value).set 1 (.int (Int32.ofInt 0))) := ⟨0, t, by rw [nI_0']; rfl, Nat.zero_le _⟩
theorem tm_more {q L f : Nat} {t : Bool} (hf : f < L) : termφ q L (7, ([.ref q, vI f, .int (bI t)] : List Value).set 1 (.int (nI f + Int32.ofInt 1))) := ⟨f + 1, t, by rw [nI_1', nI_add]; rfl, hf⟩
theorem tm_long0 {q L f : Nat} {t : Bool} (hf : f ≤ L) : termφ q L (7, ([.ref q, vI f, .int (bI t)] : List Value).set 2 (.int (Int32.ofInt 0))) := ⟨f, false, rfl, hf⟩
theorem tm_long1 {q L f : Nat} {t : Bool} (hf : f ≤ L) : termφ q L (7, ([.ref q, vI f, .int (bI t)] : List Value).set 2 (.int (Int32.ofInt 1))) := ⟨f, true, rfl, hf⟩
theorem pr_set {a b w w' : Nat} {x : Int32} (hx : x = nI w') (h : w' ≤ 128) : pairφ a b (4, ([.ref a, .ref b, vI w] : List Value).set 2 (.int x)) := ⟨w', by rw [hx]; rfl, h⟩
theorem st_set3 {a b q : Nat} {t e : Int32} (x : Int32) : stepφ a b q (6, ([.ref a, .ref b, .ref q, .int t, .int e] : List Value).set 3 (.int x)) := ⟨x, e, rfl⟩
theorem st_set4 {a b q : Nat} {t e : Int32} (x : Int32) : stepφ a b q (6, ([.ref a, .ref b, .ref q, .int t, .int e] : List Value).set 4 (.int x)) := ⟨t, x, rfl⟩
theorem inN_pos {x : Int32} {N : Nat} (h : inN N x) (hN : N ≤ 2 ^ 20) : ¬ x < 0 := by
  obtain ⟨j, hj, rfl⟩ := h
  exact nI_pos (by omega)
theorem inN_ix {x : Int32} {N : Nat} (h : inN N x) (hN : N ≤ 2 ^ 20) : x.toNatClampNeg < N := by
  obtain ⟨j, hj, rfl⟩ := h
  rw [nI_clamp (by omega)]
  exact hj
section CW
variable {p : Program} {la : Launch} {e : Env} {R : Room} {s : State} {m : MethodId} {args : Array Value} {below : List Frame} {meth : Method} {c : Code} {Q : State → Prop}
variable {D : va_G} {cA : Nat → ClassId} {B0 pa nL : Nat} {cc : ByteArray} {own : String} {pc k n : Nat} {l : List (Nat × Value)} {r : List Value} {h h0 : AH} {Γ : TY} {P : Option Value → Prop}
theorem callVR_ok (X : CX p s m args c D cA B0 nL cc own) (E : EN D cA B0 pa s) {y : MethodName} {bytes : ByteArray} {maxL idx ci b d : Nat} {ret : Option FieldType} {av : List Value} {T : u_T} {N : Nat}
    (hM : CT la D cA B0 pa y bytes maxL ret (rmD d 0 0) (.ref b :: av) h (RdO P h)) (hL : LK y bytes maxL av.length ret) (hl : Cond.methodLink own idx y ∈ WT) (hi : Cond.instanceMethod y ∈ WT) (hse : Cond.selects y.cls y y ∈ WT) (hR : d + 1 ≤ R.frames ∧ 8 + (maxL + 11) + 40 * d ≤ R.locals) (hf : k ≤ R.cells ∧ n ≤ R.slots)
    (hc : vwCl[ci]? = some (y.cls, T, N)) (hb : ∃ fs, h b = some (ci, fs)) (hW : (r.map fun v => v.category).sum ≤ 8) (hd : decode cc pc = .ok (.invokevirtual idx, 3))
    (kk : ∀ v : Option Value, P v → WS p la e R s m args below meth c Q D cA B0 nL (pc + 3) l (v.toList ++ r) h k n) : WS p la e R s m args below meth c Q D cA B0 nL pc l (av.reverse ++ .ref b :: r) h k n := by
  obtain ⟨fs, hb⟩ := hb
  refine callV_ok (T := T) (N := N) X E hM hL hl hi hse hR hf hc hb hW hd ?_
  rintro v h' ⟨hv, rfl⟩
  exact kk v hv
theorem callVW_ok (X : CX p s m args c D cA B0 nL cc own) (E : EN D cA B0 pa s) (J : TI Γ h0 h) {y : MethodName} {bytes : ByteArray} {maxL idx ci b d : Nat} {ret : Option FieldType} {av : List Value} {T : u_T} {N : Nat}
    (hM : CT la D cA B0 pa y bytes maxL ret (rmD d 0 0) (.ref b :: av) h (WrO Γ P h)) (hL : LK y bytes maxL av.length ret) (hl : Cond.methodLink own idx y ∈ WT) (hi : Cond.instanceMethod y ∈ WT) (hse : Cond.selects y.cls y y ∈ WT) (hR : d + 1 ≤ R.frames ∧ 8 + (maxL + 11) + 40 * d ≤ R.locals) (hf : k ≤ R.cells ∧ n ≤ R.slots)
    (hc : vwCl[ci]? = some (y.cls, T, N)) (hb : ∃ fs, h b = some (ci, fs)) (hW : (r.map fun v => v.category).sum ≤ 8) (hd : decode cc pc = .ok (.invokevirtual idx, 3))
    (kk : ∀ (v : Option Value) (h' : AH), P v → TI Γ h0 h' → WS p la e R s m args below meth c Q D cA B0 nL (pc + 3) l (v.toList ++ r) h' k n) : WS p la e R s m args below meth c Q D cA B0 nL pc l (av.reverse ++ .ref b :: r) h k n := by
  obtain ⟨fs, hb⟩ := hb
  refine callV_ok (T := T) (N := N) X E hM hL hl hi hse hR hf hc hb hW hd ?_
  rintro v h' ⟨hv, J'⟩
  exact kk v h' hv (J.trans J')
theorem callSR_ok (X : CX p s m args c D cA B0 nL cc own) (E : EN D cA B0 pa s) {y : MethodName} {bytes : ByteArray} {maxL idx d : Nat} {ret : Option FieldType} {av : List Value}
    (hM : CT la D cA B0 pa y bytes maxL ret (rmD d 0 0) av h (RdO P h)) (hL : LK y bytes maxL av.length ret) (hl : Cond.methodLink own idx y ∈ WT) (hs : Cond.static y ∈ WT) (hR : d + 1 ≤ R.frames ∧ 8 + (maxL + 11) + 40 * d ≤ R.locals) (hf : k ≤ R.cells ∧ n ≤ R.slots)
    (hW : (r.map fun v => v.category).sum ≤ 8) (hd : decode cc pc = .ok (.invokestatic idx, 3))
    (kk : ∀ v : Option Value, P v → WS p la e R s m args below meth c Q D cA B0 nL (pc + 3) l (v.toList ++ r) h k n) : WS p la e R s m args below meth c Q D cA B0 nL pc l (av.reverse ++ r) h k n := by
  refine callS_ok X E hM hL hl hs hR hf hW hd ?_
  rintro v h' ⟨hv, rfl⟩
  exact kk v hv
theorem callNR_ok (X : CX p s m args c D cA B0 nL cc own) (E : EN D cA B0 pa s) {y : MethodName} {host : String} {bytes : ByteArray} {maxL idx d : Nat} {ret : Option FieldType} {av : List Value}
    (hM : CT la D cA B0 pa y bytes maxL ret (rmD d 0 0) av h (RdO P h)) (hL : LK y bytes maxL av.length ret) (hl : Cond.methodLinkNest own idx y host ∈ lw_tbl) (hs : Cond.static y ∈ WT) (hR : d + 1 ≤ R.frames ∧ 8 + (maxL + 11) + 40 * d ≤ R.locals) (hf : k ≤ R.cells ∧ n ≤ R.slots)
    (hW : (r.map fun v => v.category).sum ≤ 8) (hd : decode cc pc = .ok (.invokestatic idx, 3))
    (kk : ∀ v : Option Value, P v → WS p la e R s m args below meth c Q D cA B0 nL (pc + 3) l (v.toList ++ r) h k n) : WS p la e R s m args below meth c Q D cA B0 nL pc l (av.reverse ++ r) h k n := by
  refine callSN_ok X E hM hL hl hs hR hf hW hd ?_
  rintro v h' ⟨hv, rfl⟩
  exact kk v hv
theorem putT_ok (X : CX p s m args c D cA B0 nL cc own) {idx ci kf a : Nat} {fs : List Value} {v : Value} {ty : FieldType} {φ : AC → Prop} (hF : FL own idx ci kf) (hT : FT ci kf ty false) (hn : narrow ty v = v) (hfit : fits ty v = true) (hd : decode cc pc = .ok (.putfield idx, 3)) (ha : h a = some (ci, fs)) (hl0 : kf < fs.length)
    (J : TI Γ h0 h) (g : Γ a = some φ) (hk : ck ci = true) (hφ : φ (ci, fs.set kf v))
    (kk : ∀ h' : AH, TI Γ h0 h' → h' a = some (ci, fs.set kf v) → (∀ b : Nat, b ≠ a → h' b = h b) → WS p la e R s m args below meth c Q D cA B0 nL (pc + 3) l r h' k n) : WS p la e R s m args below meth c Q D cA B0 nL pc l (v :: .ref a :: r) h k n :=
  putf_ok X hF hT (Or.inl rfl) hn hfit hd ha hl0 (kk _ (J.put g ha hφ hk) (hup_self _ _ _) (fun _ hb => hup_ne _ _ hb))
theorem astT_ok (X : CX p s m args c D cA B0 nL cc own) {a : Nat} {xs : List Int32} {j v : Int32} {φ : AC → Prop} (hd : decode cc pc = .ok (.iastore, 1)) (ha : h a = some (107, xs.map Value.int)) (hj : ¬ j < 0) (hl : j.toNatClampNeg < xs.length)
    (J : TI Γ h0 h) (g : Γ a = some φ) (hφ : φ (107, (xs.set j.toNatClampNeg v).map Value.int))
    (kk : ∀ h' : AH, TI Γ h0 h' → (∀ b : Nat, b ≠ a → h' b = h b) → WS p la e R s m args below meth c Q D cA B0 nL (pc + 1) l r h' k n) : WS p la e R s m args below meth c Q D cA B0 nL pc l (.int v :: .int j :: .ref a :: r) h k n :=
  ast7_ok X hd ha hj hl (kk _ (J.put g ha hφ rfl) (fun _ hb => hup_ne _ _ hb))
theorem alenr_ok (X : CX p s m args c D cA B0 nL cc own) {a kd N : Nat} {as : List Nat} (hkd : kd = 103 ∨ kd = 104) (hd : decode cc pc = .ok (.arraylength, 1)) (ha : h a = some (kd, as.map Value.ref)) (hN : as.length = N)
    (kk : WS p la e R s m args below meth c Q D cA B0 nL (pc + 1) l (vI N :: r) h k n) : WS p la e R s m args below meth c Q D cA B0 nL pc l (.ref a :: r) h k n := by
  refine alen_ok X (by omega) hd ha ?_
  rw [List.length_map, hN]
  exact kk
theorem callVXW_ok (X : CX p s m args c D cA B0 nL cc own) (E : EN D cA B0 pa s) (J : TI Γ h0 h) (ht : ∀ x ∈ c.exceptionTable.toList, False) (hlk : meth.locks = false) {y : MethodName} {bytes : ByteArray} {maxL idx ci b d C' N' : Nat} {ret : Option FieldType} {av : List Value} {T : u_T} {N : Nat} {S S' : List String} {post : Option Value → AH → Prop}
    (hM : CTX la D cA B0 pa y bytes maxL ret (rmD d C' N') (.ref b :: av) h (WrO Γ P h) (pxW S' Γ h)) (hS : ∀ E ∈ S', E ∈ S) (hL : LK y bytes maxL av.length ret) (hl : Cond.methodLink own idx y ∈ WT) (hi : Cond.instanceMethod y ∈ WT) (hse : Cond.selects y.cls y y ∈ WT) (hR : d + 1 ≤ R.frames ∧ 8 + (maxL + 11) + 40 * d ≤ R.locals) (hf : k + C' ≤ R.cells ∧ n + N' ≤ R.slots)
    (hc : vwCl[ci]? = some (y.cls, T, N)) (hb : ∃ fs, h b = some (ci, fs)) (hW : (r.map fun v => v.category).sum ≤ 8) (hd : decode cc pc = .ok (.invokevirtual idx, 3))
    (kk : ∀ (v : Option Value) (h' : AH), P v → TI Γ h0 h' → WRX p la e R s m args below meth c D cA B0 nL post (pxW S Γ h0) (pc + 3) l (v.toList ++ r) h' (k + C') (n + N')) : WRX p la e R s m args below meth c D cA B0 nL post (pxW S Γ h0) pc l (av.reverse ++ .ref b :: r) h k n := by
  obtain ⟨fs, hb⟩ := hb
  refine callVX_ok (T := T) (N := N) X E ht hlk hM (fun E' h' hp => ⟨hS _ hp.1, J.trans hp.2⟩) hL hl hi hse hR hf hc hb hW hd ?_
  rintro v h' ⟨hv, J'⟩
  exact kk v h' hv (J.trans J')
theorem callSXW_ok (X : CX p s m args c D cA B0 nL cc own) (E : EN D cA B0 pa s) (J : TI Γ h0 h) (ht : ∀ x ∈ c.exceptionTable.toList, False) (hlk : meth.locks = false) {y : MethodName} {bytes : ByteArray} {maxL idx d C' N' : Nat} {ret : Option FieldType} {av : List Value} {S S' : List String} {post : Option Value → AH → Prop}
    (hM : CTX la D cA B0 pa y bytes maxL ret (rmD d C' N') av h (WrO Γ P h) (pxW S' Γ h)) (hS : ∀ E ∈ S', E ∈ S) (hL : LK y bytes maxL av.length ret) (hl : Cond.methodLink own idx y ∈ WT) (hs : Cond.static y ∈ WT) (hR : d + 1 ≤ R.frames ∧ 8 + (maxL + 11) + 40 * d ≤ R.locals) (hf : k + C' ≤ R.cells ∧ n + N' ≤ R.slots)
    (hW : (r.map fun v => v.category).sum ≤ 8) (hd : decode cc pc = .ok (.invokestatic idx, 3))
    (kk : ∀ (v : Option Value) (h' : AH), P v → TI Γ h0 h' → WRX p la e R s m args below meth c D cA B0 nL post (pxW S Γ h0) (pc + 3) l (v.toList ++ r) h' (k + C') (n + N')) : WRX p la e R s m args below meth c D cA B0 nL post (pxW S Γ h0) pc l (av.reverse ++ r) h k n := by
  refine callSX_ok X E ht hlk hM (fun E' h' hp => ⟨hS _ hp.1, J.trans hp.2⟩) hL hl hs hR hf hW hd ?_
  rintro v h' ⟨hv, J'⟩
  exact kk v h' hv (J.trans J')
end CW
