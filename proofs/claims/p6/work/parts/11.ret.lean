/-! RETURNS, Object's constructor, statics -/
section RET
variable {p : Program} {la : Launch} {e : Env} {R : Room} {s : State} {m : MethodId} {args : Array Value} {below : List Frame} {meth : Method} {c : Code}
variable {D : va_G} {cA : Nat → ClassId} {B0 pa nL : Nat} {cc : ByteArray} {own : String} {pc k n : Nat} {l : List (Nat × Value)} {r : List Value} {h : AH} {post : Option Value → AH → Prop} {mc ms : Nat}
theorem qc_ok {v : Option Value} (hp : post v h) {H : Heap} {locs : List Loc} (hH : HS D cA B0 s h H locs) (hB : B0 ≤ s.heap.size) (a : Array Value) : ∀ t : State, t.heap = H → s.WarmedH t.vm → QC D cA B0 post a s (.returned v) t :=
  fun t ht _ => ⟨v, h, rfl, hp, by rw [ht]; exact hH.1, by rw [ht]; exact hH.2.1, fun q hq => by rw [ht]; exact hH.2.2.1 q (Nat.lt_of_lt_of_le hq hB) (by omega)⟩
theorem reti_ok (X : CX p s m args c D cA B0 nL cc own) {ty : FieldType} {x : Int32} (hr : meth.sig.returnType = some ty) (hk : meth.locks = false) (hn : narrow ty (.int x) = .int x) (hd : decode cc pc = .ok (.ireturn, 1)) (hp : post (some (.int x)) h) (h1 : k ≤ mc) (h2 : n ≤ ms) :
    WS p la e R s m args below meth c (MQ below (QC D cA B0 post) args s mc ms (fun q : Nat => B0 ≤ q)) D cA B0 nL pc l [.int x] h k n := by
  intro H locs ls hH hls
  refine W.widen h1 h2 ?_
  exact W.zret X.1 X.2.1 hr hn (qc_ok hp hH X.2.2.2.2.2.2 args) hH.2.2.2 hd hk
theorem retl_ok (X : CX p s m args c D cA B0 nL cc own) {x : Int64} (hr : meth.sig.returnType = some .long) (hk : meth.locks = false) (hd : decode cc pc = .ok (.lreturn, 1)) (hp : post (some (.long x)) h) (h1 : k ≤ mc) (h2 : n ≤ ms) :
    WS p la e R s m args below meth c (MQ below (QC D cA B0 post) args s mc ms (fun q : Nat => B0 ≤ q)) D cA B0 nL pc l [.long x] h k n := by
  intro H locs ls hH hls
  refine W.widen h1 h2 ?_
  exact W.lret X.1 X.2.1 hr (qc_ok hp hH X.2.2.2.2.2.2 args) hH.2.2.2 hd hk
theorem retv_ok (X : CX p s m args c D cA B0 nL cc own) (hr : meth.sig.returnType = none) (hk : meth.locks = false) (hd : decode cc pc = .ok (.return_, 1)) (hp : post none h) (h1 : k ≤ mc) (h2 : n ≤ ms) :
    WS p la e R s m args below meth c (MQ below (QC D cA B0 post) args s mc ms (fun q : Nat => B0 ≤ q)) D cA B0 nL pc l [] h k n := by
  intro H locs ls hH hls
  refine W.widen h1 h2 ?_
  exact W.vret X.1 X.2.1 hr (qc_ok hp hH X.2.2.2.2.2.2 args) hH.2.2.2 hd hk
theorem reta_ok (X : CX p s m args c D cA B0 nL cc own) {ty : FieldType} {v : Value} (hr : meth.sig.returnType = some ty) (hk : meth.locks = false) (hty : (∃ n, ty = .object n) ∨ ∃ t, ty = .array t) (hv : v = .null ∨ ∃ a, v = .ref a) (hd : decode cc pc = .ok (.areturn, 1)) (hp : post (some v) h) (h1 : k ≤ mc) (h2 : n ≤ ms) :
    WS p la e R s m args below meth c (MQ below (QC D cA B0 post) args s mc ms (fun q : Nat => B0 ≤ q)) D cA B0 nL pc l [v] h k n := by
  intro H locs ls hH hls
  refine W.widen h1 h2 ?_
  exact W.aret X.1 X.2.1 hr hty hv (qc_ok hp hH X.2.2.2.2.2.2 args) hH.2.2.2 hd hk
variable {Q : State → Prop}
/-- the table PARTS -/
theorem gets_ok (X : CX p s m args c D cA B0 nL cc own) (E : EN D cA B0 pa s) {idx : Nat} (hl : Cond.fieldLink own idx RX6 "PARTS" "[I" ∈ WT) (hd : decode cc pc = .ok (.getstatic idx, 3))
    (kk : WS p la e R s m args below meth c Q D cA B0 nL (pc + 3) l (.ref pa :: r) h k n) : WS p la e R s m args below meth c Q D cA B0 nL pc l r h k n := by
  intro H locs ls hH hls
  exact va_gets X.1 X.2.1 E.2.2.2.1.1 hH.2 X.2.2.2.1 (X.2.2.2.2.1 _ hl) (fun _ h => h) hd (kk H locs ls hH hls)
theorem ptab_ok (X : CX p s m args c D cA B0 nL cc own) (E : EN D cA B0 pa s) {j : Int32} (hj : vp_in j 8) (hd : decode cc pc = .ok (.iaload, 1))
    (kk : WS p la e R s m args below meth c Q D cA B0 nL (pc + 1) l (partsF j.toNatClampNeg :: r) h k n) : WS p la e R s m args below meth c Q D cA B0 nL pc l (.int j :: .ref pa :: r) h k n := by
  intro H locs ls hH hls
  exact va_ti X.1 X.2.1 E.2.2.2.1.2.1 hH.2 hj rfl hd (kk H locs ls hH hls)
theorem plen_ok (X : CX p s m args c D cA B0 nL cc own) (E : EN D cA B0 pa s) (hd : decode cc pc = .ok (.arraylength, 1))
    (kk : WS p la e R s m args below meth c Q D cA B0 nL (pc + 1) l (.int 8 :: r) h k n) : WS p la e R s m args below meth c Q D cA B0 nL pc l (.ref pa :: r) h k n := by
  intro H locs ls hH hls
  exact va_tlen X.1 X.2.1 E.2.2.2.1.2.1 hH.2 rfl hd (kk H locs ls hH hls)
end RET
