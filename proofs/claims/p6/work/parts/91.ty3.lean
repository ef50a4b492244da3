/-! more single steps for the class -/
section TY3
variable {p : Program} {la : Launch} {e : Env} {R : Room} {s : State} {m : MethodId} {args : Array Value} {below : List Frame} {meth : Method} {c : Code} {Q : State → Prop}
variable {D : va_G} {cA : Nat → ClassId} {B0 pa nL : Nat} {cc : ByteArray} {own : String} {pc k n : Nat} {l : List (Nat × Value)} {r : List Value} {h h0 : AH} {Γ : TY}
theorem lcmpx_ok (X : CX p s m args c D cA B0 nL cc own) {x y : Int64} (hd : decode cc pc = .ok (.lcmp, 1))
    (kk : ∀ z : Int32, WS p la e R s m args below meth c Q D cA B0 nL (pc + 1) l (.int z :: r) h k n) : WS p la e R s m args below meth c Q D cA B0 nL pc l (.long y :: .long x :: r) h k n := by
  intro H locs ls hH hls
  exact W.lcmp X.1 X.2.1 hd (kk _ H locs ls hH hls)
theorem mminx_ok (X : CX p s m args c D cA B0 nL cc own) {idx x y : Nat} (hx : x < 2 ^ 20) (hy : y < 2 ^ 20) (hl : Cond.methodLink own idx yJ9_min_7cf53 ∈ WT) (hd : decode cc pc = .ok (.invokestatic idx, 3)) (hfr : 1 ≤ R.frames) (hlo : (r.map fun v => v.category).sum + 13 ≤ R.locals) (h1 : k ≤ R.cells) (h2 : n ≤ R.slots)
    (kk : ∀ z : Nat, z ≤ y → WS p la e R s m args below meth c Q D cA B0 nL (pc + 3) l (vI z :: r) h k n) : WS p la e R s m args below meth c Q D cA B0 nL pc l (.int (nI y) :: vI x :: r) h k n := by
  intro H locs ls hH hls
  refine va_mmin X.1 X.2.1 (X.2.2.1.trans hls.1.symm) X.2.2.2.1 (X.2.2.2.2.1 _ hl) (X.2.2.2.2.1 _ lsJ9_min_7cf53) (X.2.2.2.2.1 _ liJ9) (X.2.2.2.2.1 _ lcJ9_min_7cf53) hfr hlo h1 h2 hd ?_
  have e : ∃ z : Nat, z ≤ y ∧ (if nI y < nI x then nI y else nI x) = nI z := by
    by_cases q : y < x
    · exact ⟨y, Nat.le_refl _, if_pos ((nI_ltI (by omega) (by omega)).mpr q)⟩
    · exact ⟨x, by omega, if_neg (fun z => q ((nI_ltI (by omega) (by omega)).mp z))⟩
  obtain ⟨z, hz, e⟩ := e
  rw [e]
  exact kk z hz H locs ls hH hls
theorem callSW_ok (X : CX p s m args c D cA B0 nL cc own) (E : EN D cA B0 pa s) (J : TI Γ h0 h) {y : MethodName} {bytes : ByteArray} {maxL idx d : Nat} {ret : Option FieldType} {av : List Value} {P : Option Value → Prop}
    (hM : CT la D cA B0 pa y bytes maxL ret (rmD d 0 0) av h (WrO Γ P h)) (hL : LK y bytes maxL av.length ret) (hl : Cond.methodLink own idx y ∈ WT) (hs : Cond.static y ∈ WT) (hR : d + 1 ≤ R.frames ∧ 8 + (maxL + 11) + 40 * d ≤ R.locals) (hf : k ≤ R.cells ∧ n ≤ R.slots)
    (hW : (r.map fun v => v.category).sum ≤ 8) (hd : decode cc pc = .ok (.invokestatic idx, 3))
    (kk : ∀ (v : Option Value) (h' : AH), P v → TI Γ h0 h' → WS p la e R s m args below meth c Q D cA B0 nL (pc + 3) l (v.toList ++ r) h' k n) : WS p la e R s m args below meth c Q D cA B0 nL pc l (av.reverse ++ r) h k n := by
  refine callS_ok X E hM hL hl hs hR hf hW hd ?_
  rintro v h' ⟨hv, J'⟩
  exact kk v h' hv (J.trans J')
end TY3
set_option maxRecDepth 100000 in
theorem csX4_59 : Cond.constant RX4 59 1000000 ∈ WT := WT_of (tbw_2 (List.mem_of_getElem? (i := 4) rfl)) rfl
set_option maxRecDepth 100000 in
theorem csX1_63 : Cond.constant RX1 63 1000000 ∈ WT := WT_of (tbw_2 (List.mem_of_getElem? (i := 82) rfl)) rfl
theorem nat_nlt {i K : Nat} (hi : i < 2 ^ 31 ∧ K < 2 ^ 31) (c : ¬ nI K < nI i) : i < K + 1 := by
  rcases Nat.lt_or_ge K i with q | q
  · exact absurd ((nI_ltI hi.2 hi.1).mpr q) c
  · omega
set_option maxRecDepth 100000 in
theorem csX6_271 : Cond.constantLong RX6 271 31 ∈ WT := WT_of (tbw_3 (List.mem_of_getElem? (i := 1) rfl)) rfl
set_option maxRecDepth 100000 in
theorem csX6_269 : Cond.constantLong RX6 269 8024 ∈ WT := WT_of (tbw_3 (List.mem_of_getElem? (i := 0) rfl)) rfl
theorem inN_leN {x : Int32} {N : Nat} (h : inN (N + 1) x) (hN : N ≤ 2 ^ 20) : x ≤ nI N := by
  obtain ⟨j, hj, rfl⟩ := h
  exact (nI_leI (by omega) (by omega)).mpr (by omega)
section TSW
variable {p : Program} {la : Launch} {e : Env} {R : Room} {s : State} {m : MethodId} {args : Array Value} {below : List Frame} {meth : Method} {c : Code} {Q : State → Prop}
variable {D : va_G} {cA : Nat → ClassId} {B0 pa nL : Nat} {cc : ByteArray} {own : String} {pc k n : Nat} {l : List (Nat × Value)} {r : List Value} {h h0 : AH} {Γ : TY}
theorem tsw_ok (X : CX p s m args c D cA B0 nL cc own) {dflt lo hi : Int} {offs : Array Int} {len : Nat} {x : Int32} {off : Int} {tgt : Nat} (hd : decode cc pc = .ok (.tableswitch dflt lo hi offs, len)) (h1 : ¬ x.toInt < lo) (h2 : ¬ hi < x.toInt) (ho : offs[(x.toInt - lo).toNat]? = some off) (ht : (pc : Int) + off = (tgt : Int))
    (kk : WS p la e R s m args below meth c Q D cA B0 nL tgt l r h k n) : WS p la e R s m args below meth c Q D cA B0 nL pc l (.int x :: r) h k n := by
  intro H locs ls hH hls
  exact lv_tableIn X.1 X.2.1 hd h1 h2 ho ht (kk H locs ls hH hls)
theorem tswo_ok (X : CX p s m args c D cA B0 nL cc own) {dflt lo hi : Int} {offs : Array Int} {len : Nat} {x : Int32} {tgt : Nat} (hd : decode cc pc = .ok (.tableswitch dflt lo hi offs, len)) (h1 : x.toInt < lo ∨ hi < x.toInt) (ht : (pc : Int) + dflt = (tgt : Int))
    (kk : WS p la e R s m args below meth c Q D cA B0 nL tgt l r h k n) : WS p la e R s m args below meth c Q D cA B0 nL pc l (.int x :: r) h k n := by
  intro H locs ls hH hls
  exact lv_tableOut X.1 X.2.1 hd h1 ht (kk H locs ls hH hls)
end TSW
