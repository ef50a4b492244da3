section U85exc2
/-! CONTRACTS of methods that return or throw; throws, calls, handlers -/
def XCq (D : va_G) (cA : Nat → ClassId) (B0 : Nat) (px : String → AH → Prop) : String → State → State → Prop := fun E st t =>
  ∃ h' : AH, px E h' ∧ Rp D cA B0 h' t.heap ∧ st.heap.size ≤ t.heap.size ∧ ∀ q : Nat, q < B0 → t.heap[q]? = st.heap[q]?
def CTX (la : Launch) (D : va_G) (cA : Nat → ClassId) (B0 pa : Nat) (y : MethodName) (bytes : ByteArray) (maxL : Nat) (ret : Option FieldType) (rm : Room) (av : List Value) (h : AH) (post : Option Value → AH → Prop) (px : String → AH → Prop) : Prop :=
  vx_Met la y (Cond.code y bytes maxL ret :: WT) rm (PC D cA B0 pa av h) (QC D cA B0 post) (XCq D cA B0 px) rm.cells rm.slots (fun q : Nat => B0 ≤ q)
/-- a method whose handlers catch all that is thrown -/
def CTH (la : Launch) (D : va_G) (cA : Nat → ClassId) (B0 pa : Nat) (y : MethodName) (bytes : ByteArray) (maxL : Nat) (ret : Option FieldType) (hh : List (Nat × Nat × Nat × Nat)) (rm : Room) (av : List Value) (h : AH) (post : Option Value → AH → Prop) : Prop :=
  vx_Met la y (Cond.codeWith y bytes maxL ret hh :: WT) rm (PC D cA B0 pa av h) (QC D cA B0 post) (XCq D cA B0 (fun _ _ => False)) rm.cells rm.slots (fun q : Nat => B0 ≤ q)
abbrev WRX (p : Program) (la : Launch) (e : Env) (rm : Room) (s : State) (m : MethodId) (args : Array Value) (below : List Frame) (meth : Method) (c : Code) (D : va_G) (cA : Nat → ClassId) (B0 nL : Nat) (post : Option Value → AH → Prop) (px : String → AH → Prop) (pc : Nat) (l : List (Nat × Value)) (st : List Value) (h : AH) (k n : Nat) : Prop :=
  WS p la e rm s m args below meth c (vx_MQ below (QC D cA B0 post) (XCq D cA B0 px) args s rm.cells rm.slots (fun q : Nat => B0 ≤ q)) D cA B0 nL pc l st h k n
theorem CTX_of {la : Launch} {D : va_G} {cA : Nat → ClassId} {B0 pa : Nat} {y : MethodName} {bytes : ByteArray} {maxL : Nat} {ret : Option FieldType} {rm : Room} {av : List Value} {h : AH} {post : Option Value → AH → Prop} {px : String → AH → Prop}
    (hy : plainName y.cls = true) (hml : (lg_sl av).length ≤ maxL)
    (body : ∀ (p : Program) (e : Env) (s : State) (m : MethodId) (args : Array Value) (below : List Frame) (meth : Method) (c : Code), CX p s m args c D cA B0 maxL bytes y.cls → EN D cA B0 pa s → meth.sig.returnType = ret → meth.locks = false → meth.name = y.name → (∀ x ∈ c.exceptionTable.toList, False) →
      WRX p la e rm s m args below meth c D cA B0 maxL post px 0 (lv_args 0 av) [] h 0 0) : CTX la D cA B0 pa y bytes maxL ret rm av h post px := by
  refine vx_ofW (cc := bytes) (maxL := maxL) (ret := ret) hy rfl ?_
  intro p e s m args below meth c s₁ B hmlc ht hv
  obtain ⟨rfl, hR, hE⟩ := hv
  have hts := atoms_spec (ws := Cond.code y bytes maxL ret :: WT) B.pre
  have hown : s.vm.findClass y.cls = some m.cls := findClass_of_methodNamed B.named
  have hX : CX p s m av.toArray c D cA B0 maxL bytes y.cls := ⟨B.exec, B.bytes, hmlc, hown, fun w hw => hts w (List.mem_cons_of_mem _ hw), hE.1, hE.2.2.2.2⟩
  have hl := lv_entry av (n := maxL) hml
  rw [lg_entry_eq]
  exact body p e s m av.toArray below meth c hX hE B.returns B.notSynchronized (name_of_methodNamed B.named B.method).1 ht s.heap [] _ ⟨hR, va_S.rf⟩ hl
theorem CTH_of {la : Launch} {D : va_G} {cA : Nat → ClassId} {B0 pa : Nat} {y : MethodName} {bytes : ByteArray} {maxL : Nat} {ret : Option FieldType} {hh : List (Nat × Nat × Nat × Nat)} {rm : Room} {av : List Value} {h : AH} {post : Option Value → AH → Prop}
    (hy : plainName y.cls = true) (hml : (lg_sl av).length ≤ maxL)
    (body : ∀ (p : Program) (e : Env) (s : State) (m : MethodId) (args : Array Value) (below : List Frame) (meth : Method) (c : Code), CX p s m args c D cA B0 maxL bytes y.cls → EN D cA B0 pa s → meth.sig.returnType = ret → meth.locks = false → c.exceptionTable.toList = tableOf hh →
      WRX p la e rm s m args below meth c D cA B0 maxL post (fun _ _ => False) 0 (lv_args 0 av) [] h 0 0) : CTH la D cA B0 pa y bytes maxL ret hh rm av h post := by
  refine vx_ofWH (cc := bytes) (maxL := maxL) (ret := ret) (hh := hh) hy rfl ?_
  intro p e s m args below meth c s₁ B hmlc hv
  obtain ⟨rfl, hR, hE⟩ := hv
  have hts := atoms_spec (ws := Cond.codeWith y bytes maxL ret hh :: WT) B.pre
  have hown : s.vm.findClass y.cls = some m.cls := findClass_of_methodNamed B.named
  have hX : CX p s m av.toArray c D cA B0 maxL bytes y.cls := ⟨B.exec, B.bytes, hmlc, hown, fun w hw => hts w (List.mem_cons_of_mem _ hw), hE.1, hE.2.2.2.2⟩
  have hl := lv_entry av (n := maxL) hml
  rw [lg_entry_eq]
  exact body p e s m av.toArray below meth c hX hE B.returns B.notSynchronized (vx_table (x := y) B (hts _ List.mem_cons_self)) s.heap [] _ ⟨hR, va_S.rf⟩ hl
/-- an exception that is made and thrown: its words -/
def XW (own : String) (ik ic : Nat) (cls : String) (names : List String) : Prop := (Bundle.fit cls = true ∧ ∀ n ∈ names, Bundle.fit n = true) ∧ Cond.classLink own ik cls ∈ WT ∧ Cond.initialized cls ∈ WT ∧ ∀ w ∈ vx_atS own ic cls names, w ∈ lw_tbl ∧ (goodWord w || isNest w) = true
theorem nest_tables {w : Cond} (h : isNest w = true) : w.onTables = true := by
  cases w <;> first | rfl | (simp [isNest] at h)
theorem XW.ot {own : String} {ik ic : Nat} {cls : String} {names : List String} (h : XW own ik ic cls names) : ∀ w ∈ Cond.classLink own ik cls :: Cond.initialized cls :: vx_atS own ic cls names, vx_ot w = true := by
  have g : ∀ w, w ∈ WT → vx_ot w = true := fun w hw => by
    unfold vx_ot
    rw [WT_good w hw, Bool.or_true]
  intro w hw
  rcases List.mem_cons.mp hw with rfl | hw
  · exact g _ h.2.1
  · rcases List.mem_cons.mp hw with rfl | hw
    · exact g _ h.2.2.1
    · have h2 := (h.2.2.2 _ hw).2
      unfold vx_ot
      rw [Bool.or_eq_true] at h2 ⊢
      exact h2.elim Or.inr (fun z => Or.inl (nest_tables z))
theorem word_ok {p : Program} {s : State} {m : MethodId} {args : Array Value} {c : Code} {D : va_G} {cA : Nat → ClassId} {B0 pa nL : Nat} {cc : ByteArray} {own : String} (X : CX p s m args c D cA B0 nL cc own) (E : EN D cA B0 pa s) {w : Cond} (h1 : w ∈ lw_tbl) (h2 : (goodWord w || isNest w) = true) : w.before args s = true := by
  rw [Bool.or_eq_true] at h2
  rcases h2 with h2 | h2
  · exact X.2.2.2.2.1 _ (WT_of h1 h2)
  · exact va_tabs (nest_tables h2) rfl (E.2.1 w h1 h2)
theorem Rp.grow {D : va_G} {cA : Nat → ClassId} {B0 : Nat} {h : AH} {H H1 : Heap} (hR : Rp D cA B0 h H) (hq : ∀ q : Nat, q < H.size → H1[q]? = H[q]?) : Rp D cA B0 h H1 := fun a c ha => ⟨(hR a c ha).1, (hR a c ha).2.kept (hq a (hR.lt ha))⟩
section EXC2
variable {p : Program} {la : Launch} {e : Env} {R : Room} {s : State} {m : MethodId} {args : Array Value} {below : List Frame} {meth : Method} {c : Code} {Q : State → Prop}
variable {D : va_G} {cA : Nat → ClassId} {B0 pa nL : Nat} {cc : ByteArray} {own : String} {pc k n : Nat} {l : List (Nat × Value)} {r : List Value} {h : AH} {post : Option Value → AH → Prop} {px : String → AH → Prop}
theorem WRX.ret {st : List Value} (kk : WR p la e R s m args below meth c D cA B0 nL post pc l st h k n) : WRX p la e R s m args below meth c D cA B0 nL post px pc l st h k n := fun H locs ls hH hl => vx_ret (kk H locs ls hH hl)
theorem thrown_ok (hB : B0 ≤ s.heap.size) {cls : String} {H : Heap} {locs : List Loc} (hH : HS D cA B0 s h H locs) (hp : px cls h) : ∀ t : State, s.vm.Alike t.vm → H.size ≤ t.heap.size → (∀ q : Nat, q < H.size → t.heap[q]? = H[q]?) → XCq D cA B0 px cls s t :=
  fun t _ hz hq => ⟨h, hp, hH.1.grow hq, Nat.le_trans hH.2.1 hz, fun q h1 => (hq q (Nat.lt_of_lt_of_le (Nat.lt_of_lt_of_le h1 hB) hH.2.1)).trans (hH.2.2.1 q (Nat.lt_of_lt_of_le h1 hB) (by omega))⟩
theorem throwS_ok (X : CX p s m args c D cA B0 nL cc own) (E : EN D cA B0 pa s) (hl : la.stackTraces = false) (ht : ∀ x ∈ c.exceptionTable.toList, False) (hlk : meth.locks = false) {cls text : String} {names : List String} {ik is ic : Nat} (hw : XW own ik ic cls names) (htx : (own, is, text) ∈ xsL)
    (d0 : decode cc pc = .ok (.new ik, 3)) (d3 : decode cc (pc + 3) = .ok (.dup, 1)) (d4 : decode cc (pc + 4) = .ok (.ldc is, 2)) (d6 : decode cc (pc + 6) = .ok (.invokespecial ic, 3)) (d9 : decode cc (pc + 9) = .ok (.athrow, 1))
    (hf : names.length + 3 < R.frames ∧ (r.map fun v => v.category).sum + (13 * (names.length + 1) + 43) ≤ R.locals) (hc : k + 1 ≤ R.cells ∧ n + 6 ≤ R.slots) (hp : px cls h) : WRX p la e R s m args below meth c D cA B0 nL post px pc l r h k n := by
  intro H locs ls hH hls
  obtain ⟨sa, hsa⟩ := E.2.2.2.1.2.2.2.2.2.1 _ htx
  exact vx_throwS X.1 X.2.1 hl X.2.2.2.1 hw.1.1 hw.1.2 (X.2.2.2.2.1 _ hw.2.1) (X.2.2.2.2.1 _ hw.2.2.1) hsa (fun w h => word_ok X E (hw.2.2.2 w h).1 (hw.2.2.2 w h).2) hw.ot E.2.2.2.1.2.2.1 E.2.2.2.1.2.2.2.1 hH.2 (hls.1.trans X.2.2.1.symm) d0 d3 d4 d6 d9 (fun x hx => (ht x hx).elim) hf.1 hf.2 hc.1 hc.2 hlk (thrown_ok X.2.2.2.2.2.2 hH hp) hH.2.2.2 hc.1 hc.2
theorem throwW_ok (X : CX p s m args c D cA B0 nL cc own) (E : EN D cA B0 pa s) (hl : la.stackTraces = false) (ht : ∀ x ∈ c.exceptionTable.toList, False) (hlk : meth.locks = false) {cls text : String} {names : List String} {ik is ic : Nat} (hw : XW own ik ic cls names) (htx : (own, is, text) ∈ xsL)
    (d0 : decode cc pc = .ok (.new ik, 3)) (d3 : decode cc (pc + 3) = .ok (.dup, 1)) (d4 : decode cc (pc + 4) = .ok (.ldc_w is, 3)) (d7 : decode cc (pc + 7) = .ok (.invokespecial ic, 3)) (d10 : decode cc (pc + 10) = .ok (.athrow, 1))
    (hf : names.length + 3 < R.frames ∧ (r.map fun v => v.category).sum + (13 * (names.length + 1) + 43) ≤ R.locals) (hc : k + 1 ≤ R.cells ∧ n + 6 ≤ R.slots) (hp : px cls h) : WRX p la e R s m args below meth c D cA B0 nL post px pc l r h k n := by
  intro H locs ls hH hls
  obtain ⟨sa, hsa⟩ := E.2.2.2.1.2.2.2.2.2.1 _ htx
  exact vx_throwSW X.1 X.2.1 hl X.2.2.2.1 hw.1.1 hw.1.2 (X.2.2.2.2.1 _ hw.2.1) (X.2.2.2.2.1 _ hw.2.2.1) hsa (fun w h => word_ok X E (hw.2.2.2 w h).1 (hw.2.2.2 w h).2) hw.ot E.2.2.2.1.2.2.1 E.2.2.2.1.2.2.2.1 hH.2 (hls.1.trans X.2.2.1.symm) d0 d3 d4 d7 d10 (fun x hx => (ht x hx).elim) hf.1 hf.2 hc.1 hc.2 hlk (thrown_ok X.2.2.2.2.2.2 hH hp) hH.2.2.2 hc.1 hc.2
/-- a frame into which something was thrown -/
def WT' (p : Program) (la : Launch) (e : Env) (R : Room) (s : State) (m : MethodId) (args : Array Value) (below : List Frame) (meth : Method) (c : Code) (Q : State → Prop) (D : va_G) (cA : Nat → ClassId) (B0 nL : Nat) (pc : Nat) (l : List (Nat × Value)) (r : List Value) (E : String) (h : AH) (k n : Nat) : Prop :=
  ∀ (H : Heap) (locs : List Loc) (ls : Array Slot) (q : Addr) (ce : Cell), HS D cA B0 s h H locs → lv_has ls nL l → H[q]? = some ce → ce.vm = .none → s.vm.findClass E = some ce.cls → vx_W p la e R s m args below meth c H locs k n Q (F0 m pc ls r) q
theorem runX_ok {mc ms idx : Nat} {st : List Value} {As : Array Value} {post' : Option Value → AH → Prop} {px' : String → AH → Prop} (hB : B0 ≤ s.heap.size)
    (hr : ∀ (H : Heap) (locs : List Loc) (ls : Array Slot), HS D cA B0 s h H locs → lv_has ls nL l → vx_Run p la e R s m args below meth c H locs k n mc ms (F0 m pc ls st) r (QC D cA B0 post' As) (XCq D cA B0 px') (fun q : Nat => B0 ≤ q))
    (kk : ∀ (v : Option Value) (h' : AH), post' v h' → WS p la e R s m args below meth c Q D cA B0 nL (pc + 3) l (v.toList ++ r) h' (k + mc) (n + ms))
    (kx : ∀ (E : String) (h' : AH), px' E h' → WT' p la e R s m args below meth c Q D cA B0 nL pc l r E h' (k + mc) (n + ms)) : WS p la e R s m args below meth c Q D cA B0 nL pc l st h k n := by
  intro H locs ls hH hls T hT X
  have mk : ∀ {t T' : State} {L : List Loc} {st₀ : State} {h' : AH}, st₀.heap = H → T'.heap = t.heap → (∀ q ∈ L, B0 ≤ q.base) → Rp D cA B0 h' t.heap → st₀.heap.size ≤ t.heap.size → (∀ q : Nat, q < B0 → t.heap[q]? = st₀.heap[q]?) → HS D cA B0 s h' T'.heap (locs ++ L) := by
    intro t T' L st₀ h' h0 e1 hL hR hz hq
    have hz' : H.size ≤ T'.heap.size := by rw [e1, ← h0]; exact hz
    exact ⟨by rw [e1]; exact hR, Nat.le_trans hH.2.1 hz', fun q h1 h2 => by rw [e1, hq q (by omega), h0]; exact hH.2.2.1 q h1 h2, fun q hq' => by
      rcases List.mem_append.mp hq' with g | g
      · exact hH.2.2.2 q g
      · exact hL q g⟩
  rcases hr H locs ls hH hls T hT X with ⟨v, st₀, t, T', L, h0, X', hL, e1, e2, ⟨v', h', hv, hp, hR, hz, hq⟩, stp⟩ | ⟨q, st₀, t, T', L, E, ce, h0, X', hL, e1, e2, ⟨h', hp, hR, hz, hq⟩, hce, hcv, hcl, stp⟩
  · cases hv
    obtain ⟨t2, a1, b1⟩ := kk v h' hp T'.heap (locs ++ L) ls (mk h0 e1 hL hR hz hq) hls T' rfl X'
    exact ⟨t2, stp t2 a1, b1⟩
  · obtain ⟨t2, a1, b1⟩ := kx E h' hp T'.heap (locs ++ L) ls q ce (mk h0 e1 hL hR hz hq) hls (by rw [e1]; exact hce) hcv hcl T' rfl X'
    exact ⟨t2, stp.trans a1, b1⟩
/-- not caught here -/
theorem pass_ok (X : CX p s m args c D cA B0 nL cc own) (ht : ∀ x ∈ c.exceptionTable.toList, False) (hlk : meth.locks = false) {E : String} (hp : px E h) (hc : k ≤ R.cells ∧ n ≤ R.slots) : WT' p la e R s m args below meth c (vx_MQ below (QC D cA B0 post) (XCq D cA B0 px) args s R.cells R.slots (fun q : Nat => B0 ≤ q)) D cA B0 nL pc l r E h k n := by
  intro H locs ls q ce hH hls hce hcv hcl
  exact vx_out (fun x hx => (ht x hx).elim) hlk hce hcv hcl (fun t ht' _ => ⟨h, hp, by rw [ht']; exact hH.1, by rw [ht']; exact hH.2.1, fun q hq => by rw [ht']; exact hH.2.2.1 q (Nat.lt_of_lt_of_le hq X.2.2.2.2.2.2) (by omega)⟩) hH.2.2.2 hc.1 hc.2
theorem callVX_ok (X : CX p s m args c D cA B0 nL cc own) (E : EN D cA B0 pa s) (ht : ∀ x ∈ c.exceptionTable.toList, False) (hlk : meth.locks = false) {y : MethodName} {bytes : ByteArray} {maxL idx ci b : Nat} {ret : Option FieldType} {rm : Room} {av fs : List Value} {T : u_T} {N : Nat} {post' : Option Value → AH → Prop} {px' : String → AH → Prop}
    (hM : CTX la D cA B0 pa y bytes maxL ret rm (.ref b :: av) h post' px') (hpx : ∀ E h', px' E h' → px E h') (hL : LK y bytes maxL av.length ret) (hl : Cond.methodLink own idx y ∈ WT) (hi : Cond.instanceMethod y ∈ WT) (hse : Cond.selects y.cls y y ∈ WT) (hR : rm.frames + 1 ≤ R.frames ∧ 8 + (maxL + 11) + rm.locals ≤ R.locals) (hf : k + rm.cells ≤ R.cells ∧ n + rm.slots ≤ R.slots)
    (hc : vwCl[ci]? = some (y.cls, T, N)) (hb : h b = some (ci, fs))
    (hW : (r.map fun v => v.category).sum ≤ 8) (hd : decode cc pc = .ok (.invokevirtual idx, 3))
    (kk : ∀ (v : Option Value) (h' : AH), post' v h' → WRX p la e R s m args below meth c D cA B0 nL post px (pc + 3) l (v.toList ++ r) h' (k + rm.cells) (n + rm.slots)) : WRX p la e R s m args below meth c D cA B0 nL post px pc l (av.reverse ++ .ref b :: r) h k n := by
  refine runX_ok (idx := idx) (As := (Value.ref b :: av).toArray) X.2.2.2.2.2.2 (fun H locs ls hH hls => vx_runV (C := y.cls) (fix_ok X) hM ⟨callB_ok X hL hl hR, X.2.2.2.2.1 _ hi, X.2.2.2.2.1 _ hse⟩ ⟨PC_blind, ?_, (preS_of X E hH (.ref b :: av)).2⟩ rfl rfl hls.1 rfl (lv_room hW) hd hf) kk (fun E' h' hp => pass_ok X ht hlk (hpx _ _ hp) hf)
  obtain ⟨r1, g0, -, cell, g1, g2, g3, -⟩ := (hH.1 b _ hb).2.1 (vwCl_lt hc)
  exact ⟨cell, g1, by rw [g3]; rfl, by rw [g2]; exact (X.2.2.2.2.2.1.1.1 ci _ hc).2.1⟩
theorem callSX_ok (X : CX p s m args c D cA B0 nL cc own) (E : EN D cA B0 pa s) (ht : ∀ x ∈ c.exceptionTable.toList, False) (hlk : meth.locks = false) {y : MethodName} {bytes : ByteArray} {maxL idx : Nat} {ret : Option FieldType} {rm : Room} {av : List Value} {post' : Option Value → AH → Prop} {px' : String → AH → Prop}
    (hM : CTX la D cA B0 pa y bytes maxL ret rm av h post' px') (hpx : ∀ E h', px' E h' → px E h') (hL : LK y bytes maxL av.length ret) (hl : Cond.methodLink own idx y ∈ WT) (hs : Cond.static y ∈ WT) (hR : rm.frames + 1 ≤ R.frames ∧ 8 + (maxL + 11) + rm.locals ≤ R.locals) (hf : k + rm.cells ≤ R.cells ∧ n + rm.slots ≤ R.slots)
    (hW : (r.map fun v => v.category).sum ≤ 8) (hd : decode cc pc = .ok (.invokestatic idx, 3))
    (kk : ∀ (v : Option Value) (h' : AH), post' v h' → WRX p la e R s m args below meth c D cA B0 nL post px (pc + 3) l (v.toList ++ r) h' (k + rm.cells) (n + rm.slots)) : WRX p la e R s m args below meth c D cA B0 nL post px pc l (av.reverse ++ r) h k n :=
  runX_ok (idx := idx) X.2.2.2.2.2.2 (fun H locs ls hH hls => vx_runS (fix_ok X) hM ⟨callB_ok X hL hl hR, X.2.2.2.2.1 _ hs⟩ (preS_of X E hH av) rfl rfl hls.1 rfl (lv_room hW) hd hf) kk (fun E' h' hp => pass_ok X ht hlk (hpx _ _ hp) hf)
/-- a call in a method that has handlers -/
theorem callVH_ok (X : CX p s m args c D cA B0 nL cc own) (E : EN D cA B0 pa s) {y : MethodName} {bytes : ByteArray} {maxL idx ci b : Nat} {ret : Option FieldType} {rm : Room} {av fs : List Value} {T : u_T} {N : Nat} {post' : Option Value → AH → Prop} {px' : String → AH → Prop}
    (hM : CTX la D cA B0 pa y bytes maxL ret rm (.ref b :: av) h post' px') (hL : LK y bytes maxL av.length ret) (hl : Cond.methodLink own idx y ∈ WT) (hi : Cond.instanceMethod y ∈ WT) (hse : Cond.selects y.cls y y ∈ WT) (hR : rm.frames + 1 ≤ R.frames ∧ 8 + (maxL + 11) + rm.locals ≤ R.locals) (hf : k + rm.cells ≤ R.cells ∧ n + rm.slots ≤ R.slots)
    (hc : vwCl[ci]? = some (y.cls, T, N)) (hb : h b = some (ci, fs))
    (hW : (r.map fun v => v.category).sum ≤ 8) (hd : decode cc pc = .ok (.invokevirtual idx, 3))
    (kk : ∀ (v : Option Value) (h' : AH), post' v h' → WS p la e R s m args below meth c Q D cA B0 nL (pc + 3) l (v.toList ++ r) h' (k + rm.cells) (n + rm.slots))
    (kx : ∀ (E : String) (h' : AH), px' E h' → WT' p la e R s m args below meth c Q D cA B0 nL pc l r E h' (k + rm.cells) (n + rm.slots)) : WS p la e R s m args below meth c Q D cA B0 nL pc l (av.reverse ++ .ref b :: r) h k n := by
  refine runX_ok (idx := idx) (As := (Value.ref b :: av).toArray) X.2.2.2.2.2.2 (fun H locs ls hH hls => vx_runV (C := y.cls) (fix_ok X) hM ⟨callB_ok X hL hl hR, X.2.2.2.2.1 _ hi, X.2.2.2.2.1 _ hse⟩ ⟨PC_blind, ?_, (preS_of X E hH (.ref b :: av)).2⟩ rfl rfl hls.1 rfl (lv_room hW) hd hf) kk kx
  obtain ⟨r1, g0, -, cell, g1, g2, g3, -⟩ := (hH.1 b _ hb).2.1 (vwCl_lt hc)
  exact ⟨cell, g1, by rw [g3]; rfl, by rw [g2]; exact (X.2.2.2.2.2.1.1.1 ci _ hc).2.1⟩
/-- a handler -/
theorem catch_ok (X : CX p s m args c D cA B0 nL cc own) (E' : EN D cA B0 pa s) {E name : String} (pre : List ExceptionTableEntry) (x : ExceptionTableEntry) (suf : List ExceptionTableEntry) (hsplit : c.exceptionTable.toList = pre ++ x :: suf)
    (hpass : ∀ z ∈ pre, covers z pc = false ∨ (z.catchType ≠ 0 ∧ ∃ nm : String, Cond.classLink own z.catchType nm ∈ WT ∧ va_Nc E nm s)) (hx : covers x pc = true) (h0 : x.catchType ≠ 0)
    (hlink : Cond.classLink own x.catchType name ∈ WT) (hcast : Cond.castable E name ∈ lw_tbl)
    (kk : ∀ q : Addr, WS p la e R s m args below meth c Q D cA B0 nL x.handlerPc l [.ref q] h k n) : WT' p la e R s m args below meth c Q D cA B0 nL pc l r E h k n := by
  intro H locs ls q ce hH hls hce hcv hcl
  exact vx_catch X.2.2.2.1 pre x suf hsplit (fun z hz => (hpass z hz).imp id (fun w => ⟨w.1, w.2.elim fun nm g => ⟨nm, X.2.2.2.2.1 _ g.1, g.2⟩⟩)) hx h0 (X.2.2.2.2.1 _ hlink) (word_ok X E' hcast (by simp [isNest])) hce hcv hcl (kk q H locs ls hH hls)
theorem callSH_ok (X : CX p s m args c D cA B0 nL cc own) (E : EN D cA B0 pa s) {y : MethodName} {bytes : ByteArray} {maxL idx : Nat} {ret : Option FieldType} {hh : List (Nat × Nat × Nat × Nat)} {rm : Room} {av : List Value} {post' : Option Value → AH → Prop}
    (hM : CTH la D cA B0 pa y bytes maxL ret hh rm av h post') (hcw : Cond.codeWith y bytes maxL ret hh ∈ WT) (hini : Cond.initialized y.cls ∈ WT) (hl : Cond.methodLink own idx y ∈ WT) (hs : Cond.static y ∈ WT) (hy : y.cls ≠ "java/lang/invoke/MethodHandle" ∧ y.cls ≠ "java/lang/invoke/VarHandle" ∧ (parseMethodDescriptor y.desc).map (fun d => d.parameters.length) = some av.length)
    (hR : rm.frames + 1 ≤ R.frames ∧ 8 + (maxL + 11) + rm.locals ≤ R.locals) (hf : k + rm.cells ≤ R.cells ∧ n + rm.slots ≤ R.slots)
    (hW : (r.map fun v => v.category).sum ≤ 8) (hd : decode cc pc = .ok (.invokestatic idx, 3))
    (kk : ∀ (v : Option Value) (h' : AH), post' v h' → WS p la e R s m args below meth c Q D cA B0 nL (pc + 3) l (v.toList ++ r) h' (k + rm.cells) (n + rm.slots)) : WS p la e R s m args below meth c Q D cA B0 nL pc l (av.reverse ++ r) h k n := by
  have hT : GoodIn WT (va_wsS own idx y (Cond.codeWith y bytes maxL ret hh :: WT)) := by
    intro w hw
    have g : ∀ w, w ∈ WT → w ∈ WT ∧ ((w.onTables && w.keeps) = true ∨ ∃ ty, w = .arrayClass ty) := fun w h => ⟨h, good_of_word (WT_good _ h)⟩
    simp only [va_wsS, List.mem_append, List.mem_cons, List.not_mem_nil, or_false] at hw
    rcases hw with hw | hw | hw <;> first | exact g _ hw | (rcases hw with hw | hw | hw <;> subst hw <;> first | exact g _ hini | exact g _ hl | exact g _ hs) | (subst hw; exact g _ hcw)
  exact runX_ok (idx := idx) X.2.2.2.2.2.2 (fun H locs ls hH hls => vx_runSX (fix_ok X) hM (vx_cwSW av.length X.2.2.2.2.1 hT rfl rfl rfl hy hR) (preS_of X E hH av) rfl rfl hls.1 rfl (lv_room hW) hd hf) kk (fun _ _ hp => hp.elim)
end EXC2
end U85exc2
section U86cw
/-! calls among the class's methods: readers (the picture stays) and writers (the types stay) -/
abbrev RdO (P : Option Value → Prop) (h : AH) : Option Value → AH → Prop := fun v h' => P v ∧ h' = h
abbrev WrO (Γ : TY) (P : Option Value → Prop) (h : AH) : Option Value → AH → Prop := fun v h' => P v ∧ TI Γ h h'
def iP (v : Option Value) : Prop := ∃ x : Int32, v = some (.int x)
def bP (v : Option Value) : Prop := ∃ b : Bool, v = some (.int (bI b))
def voidP (v : Option Value) : Prop := v = none
def nP (N : Nat) (v : Option Value) : Prop := ∃ n : Nat, n ≤ N ∧ v = some (vI n)
def jP (v : Option Value) : Prop := ∃ x : Int64, v = some (.long x)
/-- what is thrown: one of these, the types stay -/
def pxW (S : List String) (Γ : TY) (h : AH) : String → AH → Prop := fun E h' => E ∈ S ∧ TI Γ h h'
def ioobe : String := "java/lang/IndexOutOfBoundsException"
def iae : String := "java/lang/IllegalArgumentException"
theorem bI_nz {b : Bool} (h : ¬ bI b = 0) : b = true := by
  cases b
  · exact absurd rfl h
  · rfl
theorem bI_z {b : Bool} (h : bI b = 0) : b = false := by
  cases b
  · rfl
  · exact absurd h (by decide)
theorem is_cell {Γ : TY} {h : AH} (I : Tyg Γ h) {b k : Nat} {fs : List Value} (g : Γ b = some (isφ (k, fs))) : ∃ fs, h b = some (k, fs) := ⟨_, is_open I g⟩
theorem pr_cell {Γ : TY} {h : AH} (I : Tyg Γ h) {b x y : Nat} (g : Γ b = some (pairφ x y)) : ∃ fs, h b = some (4, fs) := by
  obtain ⟨w, h1, -⟩ := pr_open I g
  exact ⟨_, h1⟩
theorem st_cell {Γ : TY} {h : AH} (I : Tyg Γ h) {b x y z : Nat} (g : Γ b = some (stepφ x y z)) : ∃ fs, h b = some (6, fs) := by
  obtain ⟨t, e, h1⟩ := st_open I g
  exact ⟨_, h1⟩
theorem tm_zero {q L f : Nat} {t : Bool} (hf : f ≤ L) : termφ q L (7, ([.ref q, vI f, .int (bI t)] : List Value).set 1 (.int (Int32.ofInt 0))) := ⟨0, t, by rw [nI_0']; rfl, Nat.zero_le _⟩
theorem tm_more {q L f : Nat} {t : Bool} (hf : f < L) : termφ q L (7, ([.ref q, vI f, .int (bI t)] : List Value).set 1 (.int (nI f + Int32.ofInt 1))) := ⟨f + 1, t, by rw [nI_1', nI_add]; rfl, hf⟩
theorem tm_long0 {q L f : Nat} {t : Bool} (hf : f ≤ L) : termφ q L (7, ([.ref q, vI f, .int (bI t)] : List Value).set 2 (.int (Int32.ofInt 0))) := ⟨f, false, rfl, hf⟩
theorem tm_long1 {q L f : Nat} {t : Bool} (hf : f ≤ L) : termφ q L (7, ([.ref q, vI f, .int (bI t)] : List Value).set 2 (.int (Int32.ofInt 1))) := ⟨f, true, rfl, hf⟩
theorem pr_set {a b w w' : Nat} {x : Int32} (hx : x = nI w') (h : w' ≤ 128) : pairφ a b (4, ([.ref a, .ref b, vI w] : List Value).set 2 (.int x)) := ⟨w', by rw [hx]; rfl, h⟩
theorem st_set3 {a b q : Nat} {t e : Int32} (x : Int32) : stepφ a b q (6, ([.ref a, .ref b, .ref q, .int t, .int e] : List Value).set 3 (.int x)) := ⟨x, e, rfl⟩
theorem st_set4 {a b q : Nat} {t e : Int32} (x : Int32) : stepφ a b q (6, ([.ref a, .ref b, .ref q, .int t, .int e] : List Value).set 4 (.int x)) := ⟨t, x, rfl⟩
theorem inN_pos {x : Int32} {N : Nat} (h : inN N x) (hN : N ≤ 2 ^ 20) : ¬ x < 0 := by
  obtain ⟨j, hj, rfl⟩ := h
  exact nI_pos (by omega)
theorem inN_ix {x : Int32} {N : Nat} (h : inN N x) (hN : N ≤ 2 ^ 20) : x.toNatClampNeg < N := by
  obtain ⟨j, hj, rfl⟩ := h
  rw [nI_clamp (by omega)]
  exact hj
section CW
variable {p : Program} {la : Launch} {e : Env} {R : Room} {s : State} {m : MethodId} {args : Array Value} {below : List Frame} {meth : Method} {c : Code} {Q : State → Prop}
variable {D : va_G} {cA : Nat → ClassId} {B0 pa nL : Nat} {cc : ByteArray} {own : String} {pc k n : Nat} {l : List (Nat × Value)} {r : List Value} {h h0 : AH} {Γ : TY} {P : Option Value → Prop}
theorem callVR_ok (X : CX p s m args c D cA B0 nL cc own) (E : EN D cA B0 pa s) {y : MethodName} {bytes : ByteArray} {maxL idx ci b d : Nat} {ret : Option FieldType} {av : List Value} {T : u_T} {N : Nat}
    (hM : CT la D cA B0 pa y bytes maxL ret (rmD d 0 0) (.ref b :: av) h (RdO P h)) (hL : LK y bytes maxL av.length ret) (hl : Cond.methodLink own idx y ∈ WT) (hi : Cond.instanceMethod y ∈ WT) (hse : Cond.selects y.cls y y ∈ WT) (hR : d + 1 ≤ R.frames ∧ 8 + (maxL + 11) + 40 * d ≤ R.locals) (hf : k ≤ R.cells ∧ n ≤ R.slots)
    (hc : vwCl[ci]? = some (y.cls, T, N)) (hb : ∃ fs, h b = some (ci, fs)) (hW : (r.map fun v => v.category).sum ≤ 8) (hd : decode cc pc = .ok (.invokevirtual idx, 3))
    (kk : ∀ v : Option Value, P v → WS p la e R s m args below meth c Q D cA B0 nL (pc + 3) l (v.toList ++ r) h k n) : WS p la e R s m args below meth c Q D cA B0 nL pc l (av.reverse ++ .ref b :: r) h k n := by
  obtain ⟨fs, hb⟩ := hb
  refine callV_ok (T := T) (N := N) X E hM hL hl hi hse hR hf hc hb hW hd ?_
  rintro v h' ⟨hv, rfl⟩
  exact kk v hv
theorem callVW_ok (X : CX p s m args c D cA B0 nL cc own) (E : EN D cA B0 pa s) (J : TI Γ h0 h) {y : MethodName} {bytes : ByteArray} {maxL idx ci b d : Nat} {ret : Option FieldType} {av : List Value} {T : u_T} {N : Nat}
    (hM : CT la D cA B0 pa y bytes maxL ret (rmD d 0 0) (.ref b :: av) h (WrO Γ P h)) (hL : LK y bytes maxL av.length ret) (hl : Cond.methodLink own idx y ∈ WT) (hi : Cond.instanceMethod y ∈ WT) (hse : Cond.selects y.cls y y ∈ WT) (hR : d + 1 ≤ R.frames ∧ 8 + (maxL + 11) + 40 * d ≤ R.locals) (hf : k ≤ R.cells ∧ n ≤ R.slots)
    (hc : vwCl[ci]? = some (y.cls, T, N)) (hb : ∃ fs, h b = some (ci, fs)) (hW : (r.map fun v => v.category).sum ≤ 8) (hd : decode cc pc = .ok (.invokevirtual idx, 3))
    (kk : ∀ (v : Option Value) (h' : AH), P v → TI Γ h0 h' → WS p la e R s m args below meth c Q D cA B0 nL (pc + 3) l (v.toList ++ r) h' k n) : WS p la e R s m args below meth c Q D cA B0 nL pc l (av.reverse ++ .ref b :: r) h k n := by
  obtain ⟨fs, hb⟩ := hb
  refine callV_ok (T := T) (N := N) X E hM hL hl hi hse hR hf hc hb hW hd ?_
  rintro v h' ⟨hv, J'⟩
  exact kk v h' hv (J.trans J')
theorem callSR_ok (X : CX p s m args c D cA B0 nL cc own) (E : EN D cA B0 pa s) {y : MethodName} {bytes : ByteArray} {maxL idx d : Nat} {ret : Option FieldType} {av : List Value}
    (hM : CT la D cA B0 pa y bytes maxL ret (rmD d 0 0) av h (RdO P h)) (hL : LK y bytes maxL av.length ret) (hl : Cond.methodLink own idx y ∈ WT) (hs : Cond.static y ∈ WT) (hR : d + 1 ≤ R.frames ∧ 8 + (maxL + 11) + 40 * d ≤ R.locals) (hf : k ≤ R.cells ∧ n ≤ R.slots)
    (hW : (r.map fun v => v.category).sum ≤ 8) (hd : decode cc pc = .ok (.invokestatic idx, 3))
    (kk : ∀ v : Option Value, P v → WS p la e R s m args below meth c Q D cA B0 nL (pc + 3) l (v.toList ++ r) h k n) : WS p la e R s m args below meth c Q D cA B0 nL pc l (av.reverse ++ r) h k n := by
  refine callS_ok X E hM hL hl hs hR hf hW hd ?_
  rintro v h' ⟨hv, rfl⟩
  exact kk v hv
theorem callNR_ok (X : CX p s m args c D cA B0 nL cc own) (E : EN D cA B0 pa s) {y : MethodName} {host : String} {bytes : ByteArray} {maxL idx d : Nat} {ret : Option FieldType} {av : List Value}
    (hM : CT la D cA B0 pa y bytes maxL ret (rmD d 0 0) av h (RdO P h)) (hL : LK y bytes maxL av.length ret) (hl : Cond.methodLinkNest own idx y host ∈ lw_tbl) (hs : Cond.static y ∈ WT) (hR : d + 1 ≤ R.frames ∧ 8 + (maxL + 11) + 40 * d ≤ R.locals) (hf : k ≤ R.cells ∧ n ≤ R.slots)
    (hW : (r.map fun v => v.category).sum ≤ 8) (hd : decode cc pc = .ok (.invokestatic idx, 3))
    (kk : ∀ v : Option Value, P v → WS p la e R s m args below meth c Q D cA B0 nL (pc + 3) l (v.toList ++ r) h k n) : WS p la e R s m args below meth c Q D cA B0 nL pc l (av.reverse ++ r) h k n := by
  refine callSN_ok X E hM hL hl hs hR hf hW hd ?_
  rintro v h' ⟨hv, rfl⟩
  exact kk v hv
theorem putT_ok (X : CX p s m args c D cA B0 nL cc own) {idx ci kf a : Nat} {fs : List Value} {v : Value} {ty : FieldType} {φ : AC → Prop} (hF : FL own idx ci kf) (hT : FT ci kf ty false) (hn : narrow ty v = v) (hfit : fits ty v = true) (hd : decode cc pc = .ok (.putfield idx, 3)) (ha : h a = some (ci, fs)) (hl0 : kf < fs.length)
    (J : TI Γ h0 h) (g : Γ a = some φ) (hk : ck ci = true) (hφ : φ (ci, fs.set kf v))
    (kk : ∀ h' : AH, TI Γ h0 h' → h' a = some (ci, fs.set kf v) → (∀ b : Nat, b ≠ a → h' b = h b) → WS p la e R s m args below meth c Q D cA B0 nL (pc + 3) l r h' k n) : WS p la e R s m args below meth c Q D cA B0 nL pc l (v :: .ref a :: r) h k n :=
  putf_ok X hF hT (Or.inl rfl) hn hfit hd ha hl0 (kk _ (J.put g ha hφ hk) (hup_self _ _ _) (fun _ hb => hup_ne _ _ hb))
theorem astT_ok (X : CX p s m args c D cA B0 nL cc own) {a : Nat} {xs : List Int32} {j v : Int32} {φ : AC → Prop} (hd : decode cc pc = .ok (.iastore, 1)) (ha : h a = some (107, xs.map Value.int)) (hj : ¬ j < 0) (hl : j.toNatClampNeg < xs.length)
    (J : TI Γ h0 h) (g : Γ a = some φ) (hφ : φ (107, (xs.set j.toNatClampNeg v).map Value.int))
    (kk : ∀ h' : AH, TI Γ h0 h' → (∀ b : Nat, b ≠ a → h' b = h b) → WS p la e R s m args below meth c Q D cA B0 nL (pc + 1) l r h' k n) : WS p la e R s m args below meth c Q D cA B0 nL pc l (.int v :: .int j :: .ref a :: r) h k n :=
  ast7_ok X hd ha hj hl (kk _ (J.put g ha hφ rfl) (fun _ hb => hup_ne _ _ hb))
theorem alenr_ok (X : CX p s m args c D cA B0 nL cc own) {a kd N : Nat} {as : List Nat} (hkd : kd = 103 ∨ kd = 104) (hd : decode cc pc = .ok (.arraylength, 1)) (ha : h a = some (kd, as.map Value.ref)) (hN : as.length = N)
    (kk : WS p la e R s m args below meth c Q D cA B0 nL (pc + 1) l (vI N :: r) h k n) : WS p la e R s m args below meth c Q D cA B0 nL pc l (.ref a :: r) h k n := by
  refine alen_ok X (by omega) hd ha ?_
  rw [List.length_map, hN]
  exact kk
theorem callVXW_ok (X : CX p s m args c D cA B0 nL cc own) (E : EN D cA B0 pa s) (J : TI Γ h0 h) (ht : ∀ x ∈ c.exceptionTable.toList, False) (hlk : meth.locks = false) {y : MethodName} {bytes : ByteArray} {maxL idx ci b d C' N' : Nat} {ret : Option FieldType} {av : List Value} {T : u_T} {N : Nat} {S S' : List String} {post : Option Value → AH → Prop}
    (hM : CTX la D cA B0 pa y bytes maxL ret (rmD d C' N') (.ref b :: av) h (WrO Γ P h) (pxW S' Γ h)) (hS : ∀ E ∈ S', E ∈ S) (hL : LK y bytes maxL av.length ret) (hl : Cond.methodLink own idx y ∈ WT) (hi : Cond.instanceMethod y ∈ WT) (hse : Cond.selects y.cls y y ∈ WT) (hR : d + 1 ≤ R.frames ∧ 8 + (maxL + 11) + 40 * d ≤ R.locals) (hf : k + C' ≤ R.cells ∧ n + N' ≤ R.slots)
    (hc : vwCl[ci]? = some (y.cls, T, N)) (hb : ∃ fs, h b = some (ci, fs)) (hW : (r.map fun v => v.category).sum ≤ 8) (hd : decode cc pc = .ok (.invokevirtual idx, 3))
    (kk : ∀ (v : Option Value) (h' : AH), P v → TI Γ h0 h' → WRX p la e R s m args below meth c D cA B0 nL post (pxW S Γ h0) (pc + 3) l (v.toList ++ r) h' (k + C') (n + N')) : WRX p la e R s m args below meth c D cA B0 nL post (pxW S Γ h0) pc l (av.reverse ++ .ref b :: r) h k n := by
  obtain ⟨fs, hb⟩ := hb
  refine callVX_ok (T := T) (N := N) X E ht hlk hM (fun E' h' hp => ⟨hS _ hp.1, J.trans hp.2⟩) hL hl hi hse hR hf hc hb hW hd ?_
  rintro v h' ⟨hv, J'⟩
  exact kk v h' hv (J.trans J')
theorem callSXW_ok (X : CX p s m args c D cA B0 nL cc own) (E : EN D cA B0 pa s) (J : TI Γ h0 h) (ht : ∀ x ∈ c.exceptionTable.toList, False) (hlk : meth.locks = false) {y : MethodName} {bytes : ByteArray} {maxL idx d C' N' : Nat} {ret : Option FieldType} {av : List Value} {S S' : List String} {post : Option Value → AH → Prop}
    (hM : CTX la D cA B0 pa y bytes maxL ret (rmD d C' N') av h (WrO Γ P h) (pxW S' Γ h)) (hS : ∀ E ∈ S', E ∈ S) (hL : LK y bytes maxL av.length ret) (hl : Cond.methodLink own idx y ∈ WT) (hs : Cond.static y ∈ WT) (hR : d + 1 ≤ R.frames ∧ 8 + (maxL + 11) + 40 * d ≤ R.locals) (hf : k + C' ≤ R.cells ∧ n + N' ≤ R.slots)
    (hW : (r.map fun v => v.category).sum ≤ 8) (hd : decode cc pc = .ok (.invokestatic idx, 3))
    (kk : ∀ (v : Option Value) (h' : AH), P v → TI Γ h0 h' → WRX p la e R s m args below meth c D cA B0 nL post (pxW S Γ h0) (pc + 3) l (v.toList ++ r) h' (k + C') (n + N')) : WRX p la e R s m args below meth c D cA B0 nL post (pxW S Γ h0) pc l (av.reverse ++ r) h k n := by
  refine callSX_ok X E ht hlk hM (fun E' h' hp => ⟨hS _ hp.1, J.trans hp.2⟩) hL hl hs hR hf hW hd ?_
  rintro v h' ⟨hv, J'⟩
  exact kk v h' hv (J.trans J')
end CW
end U86cw
section U87ty2
/-! the class's object; loops over numbers of a range; entries of a row of references -/
def objφ (S A sp os wd ow sa oa bs bc sh : Nat) (kn : Int32) : AC → Prop := fun c => ∃ d r : Int32, c = (8, [.ref S, .ref A, .int d, .int r, .int kn, .ref sp, .ref os, .ref wd, .ref ow, .ref sa, .ref oa, .ref bs, .ref bc, .ref sh])
theorem tm_long00 {q L : Nat} {t : Bool} : termφ q L (7, ([.ref q, .int (Int32.ofInt 0), .int (bI t)] : List Value).set 2 (.int (Int32.ofInt 0))) := ⟨0, false, rfl, Nat.zero_le _⟩
theorem loopN {P : Nat → Prop} {K : Nat} (st : ∀ i, i ≤ K → (i < K → P (i + 1)) → P i) (i : Nat) (hi : i ≤ K) : P i := by
  have key : ∀ d i, i + d = K → P i := by
    intro d
    induction d with
    | zero => intro i h; exact st i (by omega) (fun z => absurd z (by omega))
    | succ d ih => intro i h; exact st i (by omega) (fun _ => ih (i + 1) (by omega))
  exact key (K - i) i (by omega)
theorem nat_lt {i K : Nat} (hi : i < 2 ^ 31 ∧ K < 2 ^ 31) (c : ¬ nI K ≤ nI i) : i < K := nI_lt' hi.1 hi.2 c
theorem vI_succ (i : Nat) : Value.int (nI i + Int32.ofInt 1) = vI (i + 1) := congrArg Value.int (by rw [nI_1', nI_add])
section TY2
variable {p : Program} {la : Launch} {e : Env} {R : Room} {s : State} {m : MethodId} {args : Array Value} {below : List Frame} {meth : Method} {c : Code} {Q : State → Prop}
variable {D : va_G} {cA : Nat → ClassId} {B0 pa nL : Nat} {cc : ByteArray} {own : String} {pc k n : Nat} {l : List (Nat × Value)} {r : List Value} {h h0 : AH} {Γ : TY}
theorem aldx_ok (X : CX p s m args c D cA B0 nL cc own) {a kd K : Nat} {j : Int32} {as : List Nat} {φ : Nat → Prop} (hkd : kd = 103 ∨ kd = 104) (hK : K ≤ 1000) (hd : decode cc pc = .ok (.aaload, 1)) (ha : h a = some (kd, as.map Value.ref)) (hl : as.length = K) (ht : ∀ t ∈ as, φ t) (hj : inN K j)
    (kk : ∀ q : Nat, φ q → WS p la e R s m args below meth c Q D cA B0 nL (pc + 1) l (.ref q :: r) h k n) : WS p la e R s m args below meth c Q D cA B0 nL pc l (.int j :: .ref a :: r) h k n := by
  obtain ⟨i, hi, rfl⟩ := hj
  exact aldr_ok X hkd hd ha (by omega) (q := as[i]'(by omega)) (by simp) (kk _ (ht _ (List.getElem_mem _)))
end TY2
theorem px_ix {x : Int32} (h1 : ¬ x < (Int8.ofInt 10).toInt32) (h2 : ¬ (Int8.ofInt 10).toInt32 + 8 ≤ x) : ∃ j, j < 8 ∧ x - (Int8.ofInt 10).toInt32 = nI j := by
  rw [nI_10] at h1 h2 ⊢
  have h3 : ¬ nI 18 ≤ x := h2
  have h0 : ¬ x < 0 := fun z => h1 (Int32.lt_trans z (by decide +kernel))
  obtain ⟨i, hi, rfl⟩ := nI_of h0
  have a1 : 10 ≤ i := by
    rcases Nat.lt_or_ge i 10 with q | q
    · exact absurd ((nI_ltI (by omega) (by omega)).mpr q) h1
    · exact q
  have a2 := nI_lt' hi (by decide) h3
  exact ⟨i - 10, by omega, nI_sub a1⟩
theorem parts_le : ∀ j, j < 8 → ∃ n : Nat, n ≤ 3 ∧ partsF j = vI n
  | 0, _ => ⟨0, by decide, rfl⟩
  | 1, _ => ⟨0, by decide, rfl⟩
  | 2, _ => ⟨1, by decide, rfl⟩
  | 3, _ => ⟨1, by decide, rfl⟩
  | 4, _ => ⟨2, by decide, rfl⟩
  | 5, _ => ⟨2, by decide, rfl⟩
  | 6, _ => ⟨3, by decide, rfl⟩
  | 7, _ => ⟨3, by decide, rfl⟩
  | j + 8, h => by omega
section M87
variable {la : Launch} {D : va_G} {cA : Nat → ClassId} {B0 pa : Nat} {Γ : TY}
set_option maxRecDepth 100000 in
theorem gsX6_319 : Cond.fieldLink RX6 319 RX6 "PARTS" "[I" ∈ WT := WT_of (tbw_2 (List.mem_of_getElem? (i := 48) rfl)) rfl
theorem c6_partsOf (h : AH) (I : Tyg Γ h) (x0 : Int32) : CT la D cA B0 pa yX6_partsOf cX6_partsOf 1 (some .int) (rmD 0 0 0) [.int x0] h (RdO (nP 3) h) := by
  refine CT_of (by decide +kernel) (Nat.le_of_ble_eq_true rfl) ?_
  intro p e s m args below meth c X E hr hlk hnm
  have dk : ∀ {pc : Nat} {q : Instr × Nat}, lkd DX6_partsOf pc = some q → decode cX6_partsOf pc = .ok q := lkd_ok DX6_partsOf_ok
  have no' : ∀ (l : List (Nat × Value)), WR p la e (rmD 0 0 0) s m args below meth c D cA B0 1 (RdO (nP 3) h) 28 l [] h 0 0 := by
    intro l
    refine fst1_ok (l' := l) (st' := [.int (Int32.ofInt 0)]) X (dk rfl) rfl ?_
    exact reti_ok X hr hlk rfl (dk rfl) ⟨⟨0, Nat.zero_le _, by rw [nI_0']; rfl⟩, rfl⟩ (Nat.le_refl _) (Nat.le_refl _)
  iterate 2 refine fst1_ok X (dk rfl) rfl ?_
  refine br_ok X (dk rfl) rfl (show ((3 : Nat) : Int) + 25 = ((28 : Nat) : Int) from rfl) (fun _ => no' _) (fun c1 => ?_)
  iterate 2 refine fst1_ok X (dk rfl) rfl ?_
  refine gets_ok X E gsX6_319 (dk rfl) ?_
  refine plen_ok X E (dk rfl) ?_
  refine fst1_ok X (dk rfl) rfl ?_
  refine br_ok X (dk rfl) rfl (show ((14 : Nat) : Int) + 14 = ((28 : Nat) : Int) from rfl) (fun _ => no' _) (fun c2 => ?_)
  refine gets_ok X E gsX6_319 (dk rfl) ?_
  iterate 3 refine fst1_ok X (dk rfl) rfl ?_
  obtain ⟨j, hj, ej⟩ := px_ix c1 c2
  rw [ej]
  obtain ⟨n, hn, en⟩ := parts_le j hj
  refine ptab_ok X E (vp_in_nI hj (by decide)) (dk rfl) ?_
  rw [nI_clamp (by omega), en]
  refine br_ok X (dk rfl) rfl (show ((25 : Nat) : Int) + 4 = ((29 : Nat) : Int) from rfl) (fun _ => ?_) (fun q => absurd trivial q)
  exact reti_ok X hr hlk rfl (dk rfl) ⟨⟨n, hn, rfl⟩, rfl⟩ (Nat.le_refl _) (Nat.le_refl _)
end M87
theorem inN_lt {x : Int32} {N : Nat} (h : inN N x) (hN : N ≤ 2 ^ 20) : x < nI N := by
  obtain ⟨j, hj, rfl⟩ := h
  exact (nI_ltI (by omega) (by omega)).mpr hj
theorem natx_lt {x : Int32} {i : Nat} (hi : i < 2 ^ 31) (c : ¬ x ≤ nI i) : i < x.toInt.toNat := by
  have h1 := Int32.lt_iff_toInt_lt.mp (Int32.not_le.mp c)
  have e : (nI i).toInt = (i : Int) := by
    show (Int32.ofNat i).toInt = _
    exact Int32.toInt_ofNat_of_lt (by omega)
  omega
section MX
variable {p : Program} {la : Launch} {e : Env} {R : Room} {s : State} {m : MethodId} {args : Array Value} {below : List Frame} {meth : Method} {c : Code} {Q : State → Prop}
variable {D : va_G} {cA : Nat → ClassId} {B0 pa nL : Nat} {cc : ByteArray} {own : String} {pc k n : Nat} {l : List (Nat × Value)} {r : List Value} {h h0 : AH} {Γ : TY}
theorem mmaxi_ok (X : CX p s m args c D cA B0 nL cc own) {idx : Nat} {x y : Int32} (hl : Cond.methodLink own idx yJ9_max_7cf53 ∈ WT) (hd : decode cc pc = .ok (.invokestatic idx, 3)) (hfr : 1 ≤ R.frames) (hlo : (r.map fun v => v.category).sum + 13 ≤ R.locals) (h1 : k ≤ R.cells) (h2 : n ≤ R.slots)
    (kk : ∀ z : Int32, WS p la e R s m args below meth c Q D cA B0 nL (pc + 3) l (.int z :: r) h k n) : WS p la e R s m args below meth c Q D cA B0 nL pc l (.int y :: .int x :: r) h k n := by
  intro H locs ls hH hls
  exact va_mmax X.1 X.2.1 (X.2.2.1.trans hls.1.symm) X.2.2.2.1 (X.2.2.2.2.1 _ hl) (X.2.2.2.2.1 _ lsJ9_max_7cf53) (X.2.2.2.2.1 _ liJ9) (X.2.2.2.2.1 _ lcJ9_max_7cf53) hfr hlo h1 h2 hd (kk _ H locs ls hH hls)
end MX
end U87ty2
section U88k5
/-! the class, weakly: names, heads, terms (printed by wip/p40/cl5.py) -/
section M88
variable {la : Launch} {D : va_G} {cA : Nat → ClassId} {B0 pa : Nat} {Γ : TY}
set_option maxHeartbeats 4000000 in
theorem c6_isName (h : AH) (I : Tyg Γ h) (x0 : Int32) : CT la D cA B0 pa yX6_isName cX6_isName 1 (some .boolean) (rmD 0 0 0) [.int (x0)] h (RdO (fun v => ∃ b : Bool, v = some (.int (bI b)) ∧ (b = true → inN 8 x0) ∧ (b = false → ¬ inN 8 x0)) h) := by
  refine CT_of (by decide +kernel) (Nat.le_of_ble_eq_true rfl) ?_
  intro p e s m args below meth c X E hr hlk hnm
  have dk : ∀ {pc : Nat} {q : Instr × Nat}, lkd DX6_isName pc = some q → decode cX6_isName pc = .ok q := lkd_ok DX6_isName_ok
  refine fst1_ok X (dk rfl) rfl ?_
  refine br_ok X (dk rfl) rfl (show ((1 : Nat) : Int) + 13 = ((14 : Nat) : Int) from rfl) (fun c1 => ?_) (fun c2 => ?_)
  · refine fst1_ok X (dk rfl) rfl ?_
    exact reti_ok X hr hlk (bI_n false) (dk rfl) ⟨⟨false, rfl, (fun z => by cases z), (fun _ z => inN_pos z (by decide) c1)⟩, rfl⟩ (Nat.le_of_ble_eq_true rfl) (Nat.le_of_ble_eq_true rfl)
  · iterate 2 refine fst1_ok X (dk rfl) rfl ?_
    refine br_ok X (dk rfl) rfl (show ((7 : Nat) : Int) + 7 = ((14 : Nat) : Int) from rfl) (fun c3 => ?_) (fun c4 => ?_)
    · refine fst1_ok X (dk rfl) rfl ?_
      exact reti_ok X hr hlk (bI_n false) (dk rfl) ⟨⟨false, rfl, (fun z => by cases z), (fun _ z => absurd (inN_lt z (by decide)) (Int32.not_lt.mpr (by rw [show nI 8 = (Int8.ofInt 8).toInt32 by decide +kernel]; exact c3)))⟩, rfl⟩ (Nat.le_of_ble_eq_true rfl) (Nat.le_of_ble_eq_true rfl)
    · refine fst1_ok X (dk rfl) rfl ?_
      refine br_ok X (dk rfl) rfl (show ((11 : Nat) : Int) + 4 = ((15 : Nat) : Int) from rfl) (fun _ => ?_) (fun q => absurd trivial q)
      exact reti_ok X hr hlk (bI_n true) (dk rfl) ⟨⟨true, rfl, fun _ => inN_of (N := 8) (by decide) c2 (by rw [show nI 8 = (Int8.ofInt 8).toInt32 by decide +kernel]; exact c4), (fun z => by cases z)⟩, rfl⟩ (Nat.le_of_ble_eq_true rfl) (Nat.le_of_ble_eq_true rfl)
set_option maxHeartbeats 4000000 in
theorem c6_isHead (h : AH) (I : Tyg Γ h) (x0 : Int32) : CT la D cA B0 pa yX6_isHead cX6_isHead 1 (some .boolean) (rmD 0 0 0) [.int (x0)] h (RdO bP h) := by
  refine CT_of (by decide +kernel) (Nat.le_of_ble_eq_true rfl) ?_
  intro p e s m args below meth c X E hr hlk hnm
  have dk : ∀ {pc : Nat} {q : Instr × Nat}, lkd DX6_isHead pc = some q → decode cX6_isHead pc = .ok q := lkd_ok DX6_isHead_ok
  iterate 2 refine fst1_ok X (dk rfl) rfl ?_
  refine br_ok X (dk rfl) rfl (show ((3 : Nat) : Int) + 13 = ((16 : Nat) : Int) from rfl) (fun c1 => ?_) (fun c2 => ?_)
  · refine fst1_ok X (dk rfl) rfl ?_
    exact reti_ok X hr hlk (bI_n false) (dk rfl) ⟨⟨false, rfl⟩, rfl⟩ (Nat.le_of_ble_eq_true rfl) (Nat.le_of_ble_eq_true rfl)
  · iterate 2 refine fst1_ok X (dk rfl) rfl ?_
    refine br_ok X (dk rfl) rfl (show ((9 : Nat) : Int) + 7 = ((16 : Nat) : Int) from rfl) (fun c3 => ?_) (fun c4 => ?_)
    · refine fst1_ok X (dk rfl) rfl ?_
      exact reti_ok X hr hlk (bI_n false) (dk rfl) ⟨⟨false, rfl⟩, rfl⟩ (Nat.le_of_ble_eq_true rfl) (Nat.le_of_ble_eq_true rfl)
    · refine fst1_ok X (dk rfl) rfl ?_
      refine br_ok X (dk rfl) rfl (show ((13 : Nat) : Int) + 4 = ((17 : Nat) : Int) from rfl) (fun _ => ?_) (fun q => absurd trivial q)
      exact reti_ok X hr hlk (bI_n true) (dk rfl) ⟨⟨true, rfl⟩, rfl⟩ (Nat.le_of_ble_eq_true rfl) (Nat.le_of_ble_eq_true rfl)
end M88
end U88k5
section U89k2
/-! the class, weakly: pairs (printed by wip/p40/cl0.py) -/
section M89
variable {la : Launch} {D : va_G} {cA : Nat → ClassId} {B0 pa : Nat} {Γ : TY}
end M89
theorem spot_ix {w p i : Nat} (hp : p ≤ 3) (hw : w + p ≤ 128) (hi : i < p) : ¬ (nI (w + i) : Int32) < 0 ∧ (nI (w + i)).toNatClampNeg < 128 := ⟨nI_pos (by omega), by rw [nI_clamp (by omega)]; omega⟩
section M89b
variable {la : Launch} {D : va_G} {cA : Nat → ClassId} {B0 pa : Nat} {Γ : TY}
end M89b
end U89k2
section U90k0
/-! the class, weakly: answers (printed by wip/p40/cl0.py) -/
def chEx : List String := ["java/lang/RuntimeException", "java/lang/Exception"]
set_option maxRecDepth 100000 in
theorem xwX0_31 : XW RX0 27 31 iae chEx := ⟨⟨by decide +kernel, by decide +kernel⟩, WT_of (tbw_3 (List.mem_of_getElem? (i := 122) rfl)) rfl, WT_of (tbw_1 (List.mem_of_getElem? (i := 15) rfl)) rfl, have h : ∀ w ∈ vx_atS RX0 31 iae chEx, (w ∈ tables_1_3 ∨ w ∈ tables_1_1 ∨ w ∈ tables_1_5 ∨ w ∈ tables_1_8) ∧ (goodWord w || isNest w) = true := (by decide +kernel); fun w hw => ⟨(fun q => Or.elim q tbw_3 (fun q => Or.elim q tbw_1 (fun q => Or.elim q tbw_5 tbw_8))) (h w hw).1, (h w hw).2⟩⟩
set_option maxRecDepth 100000 in
theorem xwX6_88 : XW RX6 84 88 iae chEx := ⟨⟨by decide +kernel, by decide +kernel⟩, WT_of (tbw_3 (List.mem_of_getElem? (i := 158) rfl)) rfl, WT_of (tbw_1 (List.mem_of_getElem? (i := 15) rfl)) rfl, have h : ∀ w ∈ vx_atS RX6 88 iae chEx, (w ∈ tables_1_3 ∨ w ∈ tables_1_1 ∨ w ∈ tables_1_5 ∨ w ∈ tables_1_8) ∧ (goodWord w || isNest w) = true := (by decide +kernel); fun w hw => ⟨(fun q => Or.elim q tbw_3 (fun q => Or.elim q tbw_1 (fun q => Or.elim q tbw_5 tbw_8))) (h w hw).1, (h w hw).2⟩⟩
set_option maxRecDepth 100000 in
theorem xwX6_310 : XW RX6 306 310 ioobe chEx := ⟨⟨by decide +kernel, by decide +kernel⟩, WT_of (tbw_3 (List.mem_of_getElem? (i := 10) rfl)) rfl, WT_of (tbw_1 (List.mem_of_getElem? (i := 14) rfl)) rfl, have h : ∀ w ∈ vx_atS RX6 310 ioobe chEx, (w ∈ tables_1_3 ∨ w ∈ tables_1_1 ∨ w ∈ tables_1_5 ∨ w ∈ tables_1_8) ∧ (goodWord w || isNest w) = true := (by decide +kernel); fun w hw => ⟨(fun q => Or.elim q tbw_3 (fun q => Or.elim q tbw_1 (fun q => Or.elim q tbw_5 tbw_8))) (h w hw).1, (h w hw).2⟩⟩
section M90
variable {la : Launch} {D : va_G} {cA : Nat → ClassId} {B0 pa : Nat} {Γ : TY}
end M90
end U90k0
section U91ty3
/-! more single steps for the class -/
section TY3
variable {p : Program} {la : Launch} {e : Env} {R : Room} {s : State} {m : MethodId} {args : Array Value} {below : List Frame} {meth : Method} {c : Code} {Q : State → Prop}
variable {D : va_G} {cA : Nat → ClassId} {B0 pa nL : Nat} {cc : ByteArray} {own : String} {pc k n : Nat} {l : List (Nat × Value)} {r : List Value} {h h0 : AH} {Γ : TY}
theorem lcmpx_ok (X : CX p s m args c D cA B0 nL cc own) {x y : Int64} (hd : decode cc pc = .ok (.lcmp, 1))
    (kk : ∀ z : Int32, WS p la e R s m args below meth c Q D cA B0 nL (pc + 1) l (.int z :: r) h k n) : WS p la e R s m args below meth c Q D cA B0 nL pc l (.long y :: .long x :: r) h k n := by
  intro H locs ls hH hls
  exact W.lcmp X.1 X.2.1 hd (kk _ H locs ls hH hls)
theorem mminx_ok (X : CX p s m args c D cA B0 nL cc own) {idx x y : Nat} (hx : x < 2 ^ 20) (hy : y < 2 ^ 20) (hl : Cond.methodLink own idx yJ9_min_7cf53 ∈ WT) (hd : decode cc pc = .ok (.invokestatic idx, 3)) (hfr : 1 ≤ R.frames) (hlo : (r.map fun v => v.category).sum + 13 ≤ R.locals) (h1 : k ≤ R.cells) (h2 : n ≤ R.slots)
    (kk : ∀ z : Nat, z ≤ y → WS p la e R s m args below meth c Q D cA B0 nL (pc + 3) l (vI z :: r) h k n) : WS p la e R s m args below meth c Q D cA B0 nL pc l (.int (nI y) :: vI x :: r) h k n := by
  intro H locs ls hH hls
  refine va_mmin X.1 X.2.1 (X.2.2.1.trans hls.1.symm) X.2.2.2.1 (X.2.2.2.2.1 _ hl) (X.2.2.2.2.1 _ lsJ9_min_7cf53) (X.2.2.2.2.1 _ liJ9) (X.2.2.2.2.1 _ lcJ9_min_7cf53) hfr hlo h1 h2 hd ?_
  have e : ∃ z : Nat, z ≤ y ∧ (if nI y < nI x then nI y else nI x) = nI z := by
    by_cases q : y < x
    · exact ⟨y, Nat.le_refl _, if_pos ((nI_ltI (by omega) (by omega)).mpr q)⟩
    · exact ⟨x, by omega, if_neg (fun z => q ((nI_ltI (by omega) (by omega)).mp z))⟩
  obtain ⟨z, hz, e⟩ := e
  rw [e]
  exact kk z hz H locs ls hH hls
theorem callSW_ok (X : CX p s m args c D cA B0 nL cc own) (E : EN D cA B0 pa s) (J : TI Γ h0 h) {y : MethodName} {bytes : ByteArray} {maxL idx d : Nat} {ret : Option FieldType} {av : List Value} {P : Option Value → Prop}
    (hM : CT la D cA B0 pa y bytes maxL ret (rmD d 0 0) av h (WrO Γ P h)) (hL : LK y bytes maxL av.length ret) (hl : Cond.methodLink own idx y ∈ WT) (hs : Cond.static y ∈ WT) (hR : d + 1 ≤ R.frames ∧ 8 + (maxL + 11) + 40 * d ≤ R.locals) (hf : k ≤ R.cells ∧ n ≤ R.slots)
    (hW : (r.map fun v => v.category).sum ≤ 8) (hd : decode cc pc = .ok (.invokestatic idx, 3))
    (kk : ∀ (v : Option Value) (h' : AH), P v → TI Γ h0 h' → WS p la e R s m args below meth c Q D cA B0 nL (pc + 3) l (v.toList ++ r) h' k n) : WS p la e R s m args below meth c Q D cA B0 nL pc l (av.reverse ++ r) h k n := by
  refine callS_ok X E hM hL hl hs hR hf hW hd ?_
  rintro v h' ⟨hv, J'⟩
  exact kk v h' hv (J.trans J')
end TY3
set_option maxRecDepth 100000 in
theorem csX4_59 : Cond.constant RX4 59 1000000 ∈ WT := WT_of (tbw_2 (List.mem_of_getElem? (i := 4) rfl)) rfl
set_option maxRecDepth 100000 in
theorem csX1_63 : Cond.constant RX1 63 1000000 ∈ WT := WT_of (tbw_2 (List.mem_of_getElem? (i := 82) rfl)) rfl
theorem nat_nlt {i K : Nat} (hi : i < 2 ^ 31 ∧ K < 2 ^ 31) (c : ¬ nI K < nI i) : i < K + 1 := by
  rcases Nat.lt_or_ge K i with q | q
  · exact absurd ((nI_ltI hi.2 hi.1).mpr q) c
  · omega
set_option maxRecDepth 100000 in
theorem csX6_271 : Cond.constantLong RX6 271 31 ∈ WT := WT_of (tbw_3 (List.mem_of_getElem? (i := 1) rfl)) rfl
set_option maxRecDepth 100000 in
theorem csX6_269 : Cond.constantLong RX6 269 8024 ∈ WT := WT_of (tbw_3 (List.mem_of_getElem? (i := 0) rfl)) rfl
theorem inN_leN {x : Int32} {N : Nat} (h : inN (N + 1) x) (hN : N ≤ 2 ^ 20) : x ≤ nI N := by
  obtain ⟨j, hj, rfl⟩ := h
  exact (nI_leI (by omega) (by omega)).mpr (by omega)
section TSW
variable {p : Program} {la : Launch} {e : Env} {R : Room} {s : State} {m : MethodId} {args : Array Value} {below : List Frame} {meth : Method} {c : Code} {Q : State → Prop}
variable {D : va_G} {cA : Nat → ClassId} {B0 pa nL : Nat} {cc : ByteArray} {own : String} {pc k n : Nat} {l : List (Nat × Value)} {r : List Value} {h h0 : AH} {Γ : TY}
theorem tsw_ok (X : CX p s m args c D cA B0 nL cc own) {dflt lo hi : Int} {offs : Array Int} {len : Nat} {x : Int32} {off : Int} {tgt : Nat} (hd : decode cc pc = .ok (.tableswitch dflt lo hi offs, len)) (h1 : ¬ x.toInt < lo) (h2 : ¬ hi < x.toInt) (ho : offs[(x.toInt - lo).toNat]? = some off) (ht : (pc : Int) + off = (tgt : Int))
    (kk : WS p la e R s m args below meth c Q D cA B0 nL tgt l r h k n) : WS p la e R s m args below meth c Q D cA B0 nL pc l (.int x :: r) h k n := by
  intro H locs ls hH hls
  exact lv_tableIn X.1 X.2.1 hd h1 h2 ho ht (kk H locs ls hH hls)
theorem tswo_ok (X : CX p s m args c D cA B0 nL cc own) {dflt lo hi : Int} {offs : Array Int} {len : Nat} {x : Int32} {tgt : Nat} (hd : decode cc pc = .ok (.tableswitch dflt lo hi offs, len)) (h1 : x.toInt < lo ∨ hi < x.toInt) (ht : (pc : Int) + dflt = (tgt : Int))
    (kk : WS p la e R s m args below meth c Q D cA B0 nL tgt l r h k n) : WS p la e R s m args below meth c Q D cA B0 nL pc l (.int x :: r) h k n := by
  intro H locs ls hH hls
  exact lv_tableOut X.1 X.2.1 hd h1 ht (kk H locs ls hH hls)
end TSW
end U91ty3
section U92k4
/-! the class, weakly: steps (printed by wip/p40/cl4.py) -/
section M92
variable {la : Launch} {D : va_G} {cA : Nat → ClassId} {B0 pa : Nat} {Γ : TY}
set_option maxHeartbeats 4000000 in
theorem cJ7_fill (h : AH) (I : Tyg Γ h) {o0 L0 : Nat} (T0 : Γ o0 = some (rowφ L0)) (x1 : Int32) (hL : L0 < 2 ^ 20) : CT la D cA B0 pa yJ7_fill_53178 cJ7_fill_53178 4 none (rmD 0 0 0) [.ref o0, .int (x1)] h (WrO Γ voidP h) := by
  refine CT_of (by decide +kernel) (Nat.le_of_ble_eq_true rfl) ?_
  intro p e s m args below meth c X E hr hlk hnm
  have dk : ∀ {pc : Nat} {q : Instr × Nat}, lkd DJ7_fill_53178 pc = some q → decode cJ7_fill_53178 pc = .ok q := lkd_ok DJ7_fill_53178_ok
  have hL0 : L0 < 2 ^ 20 := hL
  have L5 : ∀ j1 : Nat, j1 ≤ L0 → ∀ (h5 : AH) (J6 : TI Γ h h5) (l : List (Nat × Value)), lsel l [3, 2, 1, 0] = [(3, vI L0), (2, vI j1), (1, .int (x1)), (0, .ref o0)] → WR p la e (rmD 0 0 0) s m args below meth c D cA B0 4 (WrO Γ voidP h) 5 l [] h5 0 0 := by
    refine loopN (fun j1 hj1 ih5 => ?_)
    intro h5 J6 l hl
    refine WS.sel [3, 2, 1, 0] hl ?_
    iterate 2 refine fst1_ok X (dk rfl) rfl ?_
    refine br_ok X (dk rfl) rfl (show ((7 : Nat) : Int) + 13 = ((20 : Nat) : Int) from rfl) (fun c7 => ?_) (fun c8 => ?_)
    · exact retv_ok X hr hlk (dk rfl) ⟨rfl, J6⟩ (Nat.le_of_ble_eq_true rfl) (Nat.le_of_ble_eq_true rfl)
    · iterate 3 refine fst1_ok X (dk rfl) rfl ?_
      obtain ⟨xs9, hx10, hn11⟩ := rw_open J6.1 T0
      refine astT_ok X (dk rfl) hx10 (nI_pos (by omega)) (by rw [hn11]; exact ix_ok (by omega) (nI_pos (by omega)) c8) J6 T0 (rowφ_set hn11 _ _) (fun h12 J13 ho14 => ?_)
      refine fst1_ok X (dk rfl) rfl ?_
      refine br_ok X (dk rfl) rfl (show ((17 : Nat) : Int) + (-12) = ((5 : Nat) : Int) from rfl) (fun _ => ?_) (fun q => absurd trivial q)
      exact ih5 (nat_lt (K := L0) (by omega) c8) h12 J13 _ (by rw [← vI_succ j1]; rfl)
  iterate 3 refine fst1_ok X (dk rfl) rfl ?_
  obtain ⟨xs15, hx16, hn17⟩ := rw_open (TI.rf I).1 T0
  refine alen7_ok X (dk rfl) hx16 hn17 ?_
  refine fst1_ok X (dk rfl) rfl ?_
  exact L5 0 (by omega) h (TI.rf I) _ rfl
end M92
end U92k4
section U98acodeT
def DJ5_init_d00df : List (Nat × Instr × Nat) := [(0, .aload_n 0, 1), (1, .invokespecial 3, 3), (4, .getstatic 18, 3), (7, .ifCond .eq 18, 3), (10, .aload_n 0, 1), (11, .iload_n 1, 1), (12, .newarray .byte, 2), (14, .putfield 15, 3), (17, .aload_n 0, 1), (18, .iconst 0, 1), (19, .putfield 22, 3), (22, .goto 16, 3), (25, .aload_n 0, 1), (26, .iload_n 1, 1), (27, .invokestatic 26, 3), (30, .putfield 15, 3), (33, .aload_n 0, 1), (34, .iconst 1, 1), (35, .putfield 22, 3), (38, .return_, 1)]
set_option maxRecDepth 100000 in
theorem DJ5_init_d00df_ok : ∀ q ∈ DJ5_init_d00df, decode cJ5_init_d00df q.1 = .ok q.2 := ck_ok (by decide +kernel)
def DJ5_length_8abf5 : List (Nat × Instr × Nat) := [(0, .aload_n 0, 1), (1, .getfield 79, 3), (4, .ireturn, 1)]
set_option maxRecDepth 100000 in
theorem DJ5_length_8abf5_ok : ∀ q ∈ DJ5_length_8abf5, decode cJ5_length_8abf5 q.1 = .ok q.2 := ck_ok (by decide +kernel)
def DJ5_ensureCapacityInternal_d00df : List (Nat × Instr × Nat) := [(0, .aload_n 0, 1), (1, .getfield 15, 3), (4, .arraylength, 1), (5, .aload_n 0, 1), (6, .getfield 22, 3), (9, .ishr, 1), (10, .istore_n 2, 1), (11, .iload_n 1, 1), (12, .iload_n 2, 1), (13, .isub, 1), (14, .ifCond .le 24, 3), (17, .aload_n 0, 1), (18, .aload_n 0, 1), (19, .getfield 15, 3), (22, .aload_n 0, 1), (23, .iload_n 1, 1), (24, .invokevirtual 104, 3), (27, .aload_n 0, 1), (28, .getfield 22, 3), (31, .ishl, 1), (32, .invokestatic 108, 3), (35, .putfield 15, 3), (38, .return_, 1)]
set_option maxRecDepth 100000 in
theorem DJ5_ensureCapacityInternal_d00df_ok : ∀ q ∈ DJ5_ensureCapacityInternal_d00df, decode cJ5_ensureCapacityInternal_d00df q.1 = .ok q.2 := ck_ok (by decide +kernel)
def DJ5_newCapacity_0f7a4 : List (Nat × Instr × Nat) := [(0, .aload_n 0, 1), (1, .getfield 15, 3), (4, .arraylength, 1), (5, .istore_n 2, 1), (6, .iload_n 1, 1), (7, .aload_n 0, 1), (8, .getfield 22, 3), (11, .ishl, 1), (12, .istore_n 3, 1), (13, .iload_n 3, 1), (14, .iload_n 2, 1), (15, .isub, 1), (16, .istore 4, 2), (18, .iload_n 2, 1), (19, .iload 4, 2), (21, .iload_n 2, 1), (22, .iconst 2, 1), (23, .aload_n 0, 1), (24, .getfield 22, 3), (27, .ishl, 1), (28, .iadd, 1), (29, .invokestatic 114, 3), (32, .istore 5, 2), (34, .iload 5, 2), (36, .ldc 39, 2), (38, .if_icmp .ne 13, 3), (41, .new 120, 3), (44, .dup, 1), (45, .ldc 122, 2), (47, .invokespecial 124, 3), (50, .athrow, 1), (51, .iload 5, 2), (53, .aload_n 0, 1), (54, .getfield 22, 3), (57, .ishr, 1), (58, .ireturn, 1)]
set_option maxRecDepth 100000 in
theorem DJ5_newCapacity_0f7a4_ok : ∀ q ∈ DJ5_newCapacity_0f7a4, decode cJ5_newCapacity_0f7a4 q.1 = .ok q.2 := ck_ok (by decide +kernel)
def DJ5_append_cf1ce : List (Nat × Instr × Nat) := [(0, .aload_n 1, 1), (1, .ifnonnull 8, 3), (4, .aload_n 0, 1), (5, .invokevirtual 204, 3), (8, .areturn, 1), (9, .aload_n 1, 1), (10, .invokevirtual 32, 3), (13, .istore_n 2, 1), (14, .aload_n 0, 1), (15, .aload_n 0, 1), (16, .getfield 79, 3), (19, .iload_n 2, 1), (20, .iadd, 1), (21, .invokevirtual 100, 3), (24, .aload_n 0, 1), (25, .aload_n 0, 1), (26, .getfield 79, 3), (29, .aload_n 1, 1), (30, .invokevirtual 208, 3), (33, .aload_n 0, 1), (34, .dup, 1), (35, .getfield 79, 3), (38, .iload_n 2, 1), (39, .iadd, 1), (40, .putfield 79, 3), (43, .aload_n 0, 1), (44, .areturn, 1)]
set_option maxRecDepth 100000 in
theorem DJ5_append_cf1ce_ok : ∀ q ∈ DJ5_append_cf1ce, decode cJ5_append_cf1ce q.1 = .ok q.2 := ck_ok (by decide +kernel)
def DJ5_append_3fe6f : List (Nat × Instr × Nat) := [(0, .aload_n 0, 1), (1, .aload_n 0, 1), (2, .getfield 79, 3), (5, .iconst 1, 1), (6, .iadd, 1), (7, .invokevirtual 100, 3), (10, .aload_n 0, 1), (11, .invokevirtual 83, 3), (14, .ifCond .eq 31, 3), (17, .iload_n 1, 1), (18, .invokestatic 191, 3), (21, .ifCond .eq 24, 3), (24, .aload_n 0, 1), (25, .getfield 15, 3), (28, .aload_n 0, 1), (29, .dup, 1), (30, .getfield 79, 3), (33, .dup_x1, 1), (34, .iconst 1, 1), (35, .iadd, 1), (36, .putfield 79, 3), (39, .iload_n 1, 1), (40, .i2b, 1), (41, .bastore, 1), (42, .goto 33, 3), (45, .aload_n 0, 1), (46, .invokevirtual 83, 3), (49, .ifCond .eq 7, 3), (52, .aload_n 0, 1), (53, .invokevirtual 195, 3), (56, .aload_n 0, 1), (57, .getfield 15, 3), (60, .aload_n 0, 1), (61, .dup, 1), (62, .getfield 79, 3), (65, .dup_x1, 1), (66, .iconst 1, 1), (67, .iadd, 1), (68, .putfield 79, 3), (71, .iload_n 1, 1), (72, .invokestatic 197, 3), (75, .aload_n 0, 1), (76, .areturn, 1)]
set_option maxRecDepth 100000 in
theorem DJ5_append_3fe6f_ok : ∀ q ∈ DJ5_append_3fe6f, decode cJ5_append_3fe6f q.1 = .ok q.2 := ck_ok (by decide +kernel)
def DJ5_getValue_6d5f1 : List (Nat × Instr × Nat) := [(0, .aload_n 0, 1), (1, .getfield 15, 3), (4, .areturn, 1)]
set_option maxRecDepth 100000 in
theorem DJ5_getValue_6d5f1_ok : ∀ q ∈ DJ5_getValue_6d5f1, decode cJ5_getValue_6d5f1 q.1 = .ok q.2 := ck_ok (by decide +kernel)
def DJ5_isLatin1_aae02 : List (Nat × Instr × Nat) := [(0, .getstatic 18, 3), (3, .ifCond .eq 14, 3), (6, .aload_n 0, 1), (7, .getfield 22, 3), (10, .ifCond .ne 7, 3), (13, .iconst 1, 1), (14, .goto 4, 3), (17, .iconst 0, 1), (18, .ireturn, 1)]
set_option maxRecDepth 100000 in
theorem DJ5_isLatin1_aae02_ok : ∀ q ∈ DJ5_isLatin1_aae02, decode cJ5_isLatin1_aae02 q.1 = .ok q.2 := ck_ok (by decide +kernel)
def DJ5_inflateIfNeededFor_a7421 : List (Nat × Instr × Nat) := [(0, .getstatic 18, 3), (3, .ifCond .eq 18, 3), (6, .aload_n 0, 1), (7, .getfield 22, 3), (10, .aload_n 1, 1), (11, .invokevirtual 40, 3), (14, .if_icmp .eq 7, 3), (17, .aload_n 0, 1), (18, .invokevirtual 195, 3), (21, .return_, 1)]
set_option maxRecDepth 100000 in
theorem DJ5_inflateIfNeededFor_a7421_ok : ∀ q ∈ DJ5_inflateIfNeededFor_a7421, decode cJ5_inflateIfNeededFor_a7421 q.1 = .ok q.2 := ck_ok (by decide +kernel)
def DJ5_putStringAt_47b60 : List (Nat × Instr × Nat) := [(0, .aload_n 0, 1), (1, .aload_n 2, 1), (2, .invokevirtual 397, 3), (5, .aload_n 2, 1), (6, .aload_n 0, 1), (7, .getfield 15, 3), (10, .iload_n 1, 1), (11, .aload_n 0, 1), (12, .getfield 22, 3), (15, .invokevirtual 399, 3), (18, .return_, 1)]
set_option maxRecDepth 100000 in
theorem DJ5_putStringAt_47b60_ok : ∀ q ∈ DJ5_putStringAt_47b60, decode cJ5_putStringAt_47b60 q.1 = .ok q.2 := ck_ok (by decide +kernel)
def DJ0_init_81219 : List (Nat × Instr × Nat) := [(0, .aload_n 0, 1), (1, .aload_n 1, 1), (2, .aconst_null, 1), (3, .invokespecial 489, 3), (6, .return_, 1)]
set_option maxRecDepth 100000 in
theorem DJ0_init_81219_ok : ∀ q ∈ DJ0_init_81219, decode cJ0_init_81219 q.1 = .ok q.2 := ck_ok (by decide +kernel)
def DJ0_length_8abf5 : List (Nat × Instr × Nat) := [(0, .aload_n 0, 1), (1, .getfield 9, 3), (4, .arraylength, 1), (5, .aload_n 0, 1), (6, .invokevirtual 335, 3), (9, .ishr, 1), (10, .ireturn, 1)]
set_option maxRecDepth 100000 in
theorem DJ0_length_8abf5_ok : ∀ q ∈ DJ0_length_8abf5, decode cJ0_length_8abf5 q.1 = .ok q.2 := ck_ok (by decide +kernel)
def DJ0_charAt_5068e : List (Nat × Instr × Nat) := [(0, .aload_n 0, 1), (1, .invokevirtual 492, 3), (4, .ifCond .eq 12, 3), (7, .aload_n 0, 1), (8, .getfield 9, 3), (11, .iload_n 1, 1), (12, .invokestatic 495, 3), (15, .ireturn, 1), (16, .aload_n 0, 1), (17, .getfield 9, 3), (20, .iload_n 1, 1), (21, .invokestatic 498, 3), (24, .ireturn, 1)]
set_option maxRecDepth 100000 in
theorem DJ0_charAt_5068e_ok : ∀ q ∈ DJ0_charAt_5068e, decode cJ0_charAt_5068e q.1 = .ok q.2 := ck_ok (by decide +kernel)
def DJ0_getBytes_840e7 : List (Nat × Instr × Nat) := [(0, .aload_n 0, 1), (1, .invokevirtual 335, 3), (4, .iload_n 3, 1), (5, .if_icmp .ne 23, 3), (8, .aload_n 0, 1), (9, .getfield 9, 3), (12, .iconst 0, 1), (13, .aload_n 1, 1), (14, .iload_n 2, 1), (15, .iload_n 3, 1), (16, .ishl, 1), (17, .aload_n 0, 1), (18, .getfield 9, 3), (21, .arraylength, 1), (22, .invokestatic 212, 3), (25, .goto 18, 3), (28, .aload_n 0, 1), (29, .getfield 9, 3), (32, .iconst 0, 1), (33, .aload_n 1, 1), (34, .iload_n 2, 1), (35, .aload_n 0, 1), (36, .getfield 9, 3), (39, .arraylength, 1), (40, .invokestatic 106, 3), (43, .return_, 1)]
set_option maxRecDepth 100000 in
theorem DJ0_getBytes_840e7_ok : ∀ q ∈ DJ0_getBytes_840e7, decode cJ0_getBytes_840e7 q.1 = .ok q.2 := ck_ok (by decide +kernel)
def DJ0_init_db425 : List (Nat × Instr × Nat) := [(0, .aload_n 0, 1), (1, .invokespecial 1, 3), (4, .aload_n 1, 1), (5, .invokevirtual 552, 3), (8, .astore_n 3, 1), (9, .aload_n 1, 1), (10, .invokevirtual 549, 3), (13, .istore 4, 2), (15, .aload_n 1, 1), (16, .invokevirtual 1047, 3), (19, .ifCond .eq 22, 3), (22, .aload_n 0, 1), (23, .iconst 0, 1), (24, .putfield 15, 3), (27, .aload_n 0, 1), (28, .aload_n 3, 1), (29, .iconst 0, 1), (30, .iload 4, 2), (32, .invokestatic 54, 3), (35, .putfield 9, 3), (38, .goto 59, 3), (41, .getstatic 38, 3), (44, .ifCond .eq 35, 3), (47, .aload_n 1, 1), (48, .getfield 1048, 3), (51, .ifCond .eq 28, 3), (54, .aload_n 0, 1), (55, .aload_n 3, 1), (56, .iconst 0, 1), (57, .iload 4, 2), (59, .invokestatic 1051, 3), (62, .putfield 9, 3), (65, .aload_n 0, 1), (66, .aload_n 0, 1), (67, .getfield 9, 3), (70, .iload 4, 2), (72, .invokestatic 47, 3), (75, .putfield 15, 3), (78, .return_, 1), (79, .aload_n 0, 1), (80, .iconst 1, 1), (81, .putfield 15, 3), (84, .aload_n 0, 1), (85, .aload_n 3, 1), (86, .iconst 0, 1), (87, .iload 4, 2), (89, .iconst 1, 1), (90, .ishl, 1), (91, .invokestatic 54, 3), (94, .putfield 9, 3), (97, .return_, 1)]
set_option maxRecDepth 100000 in
theorem DJ0_init_db425_ok : ∀ q ∈ DJ0_init_db425, decode cJ0_init_db425 q.1 = .ok q.2 := ck_ok (by decide +kernel)
def DJ0_coder_7d493 : List (Nat × Instr × Nat) := [(0, .getstatic 38, 3), (3, .ifCond .eq 10, 3), (6, .aload_n 0, 1), (7, .getfield 15, 3), (10, .goto 4, 3), (13, .iconst 1, 1), (14, .ireturn, 1)]
set_option maxRecDepth 100000 in
theorem DJ0_coder_7d493_ok : ∀ q ∈ DJ0_coder_7d493, decode cJ0_coder_7d493 q.1 = .ok q.2 := ck_ok (by decide +kernel)
def DJ0_isLatin1_aae02 : List (Nat × Instr × Nat) := [(0, .getstatic 38, 3), (3, .ifCond .eq 14, 3), (6, .aload_n 0, 1), (7, .getfield 15, 3), (10, .ifCond .ne 7, 3), (13, .iconst 1, 1), (14, .goto 4, 3), (17, .iconst 0, 1), (18, .ireturn, 1)]
set_option maxRecDepth 100000 in
theorem DJ0_isLatin1_aae02_ok : ∀ q ∈ DJ0_isLatin1_aae02, decode cJ0_isLatin1_aae02 q.1 = .ok q.2 := ck_ok (by decide +kernel)
def DJ0_checkIndex_df160 : List (Nat × Instr × Nat) := [(0, .iload_n 0, 1), (1, .iload_n 1, 1), (2, .getstatic 1053, 3), (5, .invokestatic 1059, 3), (8, .pop, 1), (9, .return_, 1)]
set_option maxRecDepth 100000 in
theorem DJ0_checkIndex_df160_ok : ∀ q ∈ DJ0_checkIndex_df160, decode cJ0_checkIndex_df160 q.1 = .ok q.2 := ck_ok (by decide +kernel)
def DJ4_init_da8c8 : List (Nat × Instr × Nat) := [(0, .aload_n 0, 1), (1, .bipush 16, 2), (3, .invokespecial 1, 3), (6, .return_, 1)]
set_option maxRecDepth 100000 in
theorem DJ4_init_da8c8_ok : ∀ q ∈ DJ4_init_da8c8, decode cJ4_init_da8c8 q.1 = .ok q.2 := ck_ok (by decide +kernel)
def DJ4_append_15ec4 : List (Nat × Instr × Nat) := [(0, .aload_n 0, 1), (1, .aload_n 1, 1), (2, .invokespecial 29, 3), (5, .pop, 1), (6, .aload_n 0, 1), (7, .areturn, 1)]
set_option maxRecDepth 100000 in
theorem DJ4_append_15ec4_ok : ∀ q ∈ DJ4_append_15ec4, decode cJ4_append_15ec4 q.1 = .ok q.2 := ck_ok (by decide +kernel)
def DJ4_append_cf468 : List (Nat × Instr × Nat) := [(0, .aload_n 0, 1), (1, .iload_n 1, 1), (2, .invokespecial 50, 3), (5, .pop, 1), (6, .aload_n 0, 1), (7, .areturn, 1)]
set_option maxRecDepth 100000 in
theorem DJ4_append_cf468_ok : ∀ q ∈ DJ4_append_cf468, decode cJ4_append_cf468 q.1 = .ok q.2 := ck_ok (by decide +kernel)
def DJ4_toString_0e30d : List (Nat × Instr × Nat) := [(0, .new 18, 3), (3, .dup, 1), (4, .aload_n 0, 1), (5, .invokespecial 137, 3), (8, .areturn, 1)]
set_option maxRecDepth 100000 in
theorem DJ4_toString_0e30d_ok : ∀ q ∈ DJ4_toString_0e30d, decode cJ4_toString_0e30d q.1 = .ok q.2 := ck_ok (by decide +kernel)
def DJ4_length_8abf5 : List (Nat × Instr × Nat) := [(0, .aload_n 0, 1), (1, .invokespecial 343, 3), (4, .ireturn, 1)]
set_option maxRecDepth 100000 in
theorem DJ4_length_8abf5_ok : ∀ q ∈ DJ4_length_8abf5, decode cJ4_length_8abf5 q.1 = .ok q.2 := ck_ok (by decide +kernel)
def DJ1_charAt_3b067 : List (Nat × Instr × Nat) := [(0, .iload_n 1, 1), (1, .aload_n 0, 1), (2, .arraylength, 1), (3, .invokestatic 9, 3), (6, .aload_n 0, 1), (7, .iload_n 1, 1), (8, .baload, 1), (9, .sipush 255, 3), (12, .iand, 1), (13, .i2c, 1), (14, .ireturn, 1)]
set_option maxRecDepth 100000 in
theorem DJ1_charAt_3b067_ok : ∀ q ∈ DJ1_charAt_3b067, decode cJ1_charAt_3b067 q.1 = .ok q.2 := ck_ok (by decide +kernel)
def DJ1_canEncode_fc78d : List (Nat × Instr × Nat) := [(0, .iload_n 0, 1), (1, .sipush 255, 3), (4, .if_icmp .gt 7, 3), (7, .iconst 1, 1), (8, .goto 4, 3), (11, .iconst 0, 1), (12, .ireturn, 1)]
set_option maxRecDepth 100000 in
theorem DJ1_canEncode_fc78d_ok : ∀ q ∈ DJ1_canEncode_fc78d, decode cJ1_canEncode_fc78d q.1 = .ok q.2 := ck_ok (by decide +kernel)
def DJ7_copyOf_9075b : List (Nat × Instr × Nat) := [(0, .iload_n 1, 1), (1, .aload_n 0, 1), (2, .arraylength, 1), (3, .if_icmp .ne 11, 3), (6, .aload_n 0, 1), (7, .invokevirtual 310, 3), (10, .checkcast 311, 3), (13, .areturn, 1), (14, .iload_n 1, 1), (15, .newarray .byte, 2), (17, .astore_n 2, 1), (18, .aload_n 0, 1), (19, .iconst 0, 1), (20, .aload_n 2, 1), (21, .iconst 0, 1), (22, .aload_n 0, 1), (23, .arraylength, 1), (24, .iload_n 1, 1), (25, .invokestatic 304, 3), (28, .invokestatic 150, 3), (31, .aload_n 2, 1), (32, .areturn, 1)]
set_option maxRecDepth 100000 in
theorem DJ7_copyOf_9075b_ok : ∀ q ∈ DJ7_copyOf_9075b, decode cJ7_copyOf_9075b q.1 = .ok q.2 := ck_ok (by decide +kernel)
def DJ7_checkLength_df160 : List (Nat × Instr × Nat) := [(0, .iload_n 1, 1), (1, .iload_n 0, 1), (2, .if_icmp .ge 35, 3), (5, .new 43, 3), (8, .dup, 1), (9, .new 45, 3), (12, .dup, 1), (13, .invokespecial 47, 3), (16, .iload_n 0, 1), (17, .invokevirtual 54, 3), (20, .ldc_w 337, 3), (23, .invokevirtual 50, 3), (26, .iload_n 1, 1), (27, .invokevirtual 54, 3), (30, .invokevirtual 61, 3), (33, .invokespecial 65, 3), (36, .athrow, 1), (37, .return_, 1)]
set_option maxRecDepth 100000 in
theorem DJ7_checkLength_df160_ok : ∀ q ∈ DJ7_checkLength_df160, decode cJ7_checkLength_df160 q.1 = .ok q.2 := ck_ok (by decide +kernel)
def DJ7_copyOfRange_39247 : List (Nat × Instr × Nat) := [(0, .iload_n 1, 1), (1, .ifCond .ne 9, 3), (4, .iload_n 2, 1), (5, .aload_n 0, 1), (6, .arraylength, 1), (7, .if_icmp .eq 10, 3), (10, .aload_n 0, 1), (11, .iload_n 1, 1), (12, .iload_n 2, 1), (13, .invokestatic 339, 3), (16, .areturn, 1), (17, .aload_n 0, 1), (18, .invokevirtual 310, 3), (21, .checkcast 311, 3), (24, .areturn, 1)]
set_option maxRecDepth 100000 in
theorem DJ7_copyOfRange_39247_ok : ∀ q ∈ DJ7_copyOfRange_39247, decode cJ7_copyOfRange_39247 q.1 = .ok q.2 := ck_ok (by decide +kernel)
def DJ7_copyOfRangeByte_39247 : List (Nat × Instr × Nat) := [(0, .iload_n 1, 1), (1, .iload_n 2, 1), (2, .invokestatic 343, 3), (5, .iload_n 2, 1), (6, .iload_n 1, 1), (7, .isub, 1), (8, .istore_n 3, 1), (9, .iload_n 3, 1), (10, .newarray .byte, 2), (12, .astore 4, 2), (14, .aload_n 0, 1), (15, .iload_n 1, 1), (16, .aload 4, 2), (18, .iconst 0, 1), (19, .aload_n 0, 1), (20, .arraylength, 1), (21, .iload_n 1, 1), (22, .isub, 1), (23, .iload_n 3, 1), (24, .invokestatic 304, 3), (27, .invokestatic 150, 3), (30, .aload 4, 2), (32, .areturn, 1)]
set_option maxRecDepth 100000 in
theorem DJ7_copyOfRangeByte_39247_ok : ∀ q ∈ DJ7_copyOfRangeByte_39247, decode cJ7_copyOfRangeByte_39247 q.1 = .ok q.2 := ck_ok (by decide +kernel)
def DJ8_newLength_cabcc : List (Nat × Instr × Nat) := [(0, .iload_n 0, 1), (1, .iload_n 1, 1), (2, .iload_n 2, 1), (3, .invokestatic 194, 3), (6, .iadd, 1), (7, .istore_n 3, 1), (8, .iconst 0, 1), (9, .iload_n 3, 1), (10, .if_icmp .ge 11, 3), (13, .iload_n 3, 1), (14, .ldc 200, 2), (16, .if_icmp .gt 5, 3), (19, .iload_n 3, 1), (20, .ireturn, 1), (21, .iload_n 0, 1), (22, .iload_n 1, 1), (23, .invokestatic 201, 3), (26, .ireturn, 1)]
set_option maxRecDepth 100000 in
theorem DJ8_newLength_cabcc_ok : ∀ q ∈ DJ8_newLength_cabcc, decode cJ8_newLength_cabcc q.1 = .ok q.2 := ck_ok (by decide +kernel)
def DJ3_checkIndex_8e157 : List (Nat × Instr × Nat) := [(0, .iload_n 0, 1), (1, .ifCond .lt 8, 3), (4, .iload_n 0, 1), (5, .iload_n 1, 1), (6, .if_icmp .lt 10, 3), (9, .aload_n 2, 1), (10, .iload_n 0, 1), (11, .iload_n 1, 1), (12, .invokestatic 95, 3), (15, .athrow, 1), (16, .iload_n 0, 1), (17, .ireturn, 1)]
set_option maxRecDepth 100000 in
theorem DJ3_checkIndex_8e157_ok : ∀ q ∈ DJ3_checkIndex_8e157, decode cJ3_checkIndex_8e157 q.1 = .ok q.2 := ck_ok (by decide +kernel)
end U98acodeT
section U98blinkT
/-! words of the text methods: code, links -/
set_option maxRecDepth 100000 in
theorem liJ0 : Cond.initialized RJ0 ∈ WT := WT_of (tbw_1 (List.mem_of_getElem? (i := 23) rfl)) rfl
set_option maxRecDepth 100000 in
theorem liJ1 : Cond.initialized RJ1 ∈ WT := WT_of (tbw_1 (List.mem_of_getElem? (i := 25) rfl)) rfl
set_option maxRecDepth 100000 in
theorem liJ3 : Cond.initialized RJ3 ∈ WT := WT_of (tbw_1 (List.mem_of_getElem? (i := 26) rfl)) rfl
set_option maxRecDepth 100000 in
theorem liJ4 : Cond.initialized RJ4 ∈ WT := WT_of (tbw_1 (List.mem_of_getElem? (i := 22) rfl)) rfl
set_option maxRecDepth 100000 in
theorem liJ5 : Cond.initialized RJ5 ∈ WT := WT_of (tbw_1 (List.mem_of_getElem? (i := 21) rfl)) rfl
set_option maxRecDepth 100000 in
theorem liJ8 : Cond.initialized RJ8 ∈ WT := WT_of (tbw_1 (List.mem_of_getElem? (i := 27) rfl)) rfl
set_option maxRecDepth 100000 in
theorem lcJ5_init_d00df : Cond.code yJ5_init_d00df cJ5_init_d00df 2 none ∈ WT := WT_of (tbw_4 (List.mem_of_getElem? (i := 148) rfl)) rfl
theorem lkJ5_init_d00df : LK yJ5_init_d00df cJ5_init_d00df 2 1 none := ⟨lcJ5_init_d00df, liJ5, ⟨by decide +kernel, by decide +kernel⟩, by decide +kernel⟩
set_option maxRecDepth 100000 in
theorem lmJ5_init_d00df : Cond.instanceMethod yJ5_init_d00df ∈ WT := WT_of (tbw_4 (List.mem_of_getElem? (i := 147) rfl)) rfl
set_option maxRecDepth 100000 in
theorem lcJ5_length_8abf5 : Cond.code yJ5_length_8abf5 cJ5_length_8abf5 1 (some .int) ∈ WT := WT_of (tbw_5 (List.mem_of_getElem? (i := 80) rfl)) rfl
theorem lkJ5_length_8abf5 : LK yJ5_length_8abf5 cJ5_length_8abf5 1 0 (some .int) := ⟨lcJ5_length_8abf5, liJ5, ⟨by decide +kernel, by decide +kernel⟩, by decide +kernel⟩
set_option maxRecDepth 100000 in
theorem lmJ5_length_8abf5 : Cond.instanceMethod yJ5_length_8abf5 ∈ WT := WT_of (tbw_5 (List.mem_of_getElem? (i := 74) rfl)) rfl
set_option maxRecDepth 100000 in
theorem lcJ5_ensureCapacityInternal_d00df : Cond.code yJ5_ensureCapacityInternal_d00df cJ5_ensureCapacityInternal_d00df 3 none ∈ WT := WT_of (tbw_4 (List.mem_of_getElem? (i := 233) rfl)) rfl
theorem lkJ5_ensureCapacityInternal_d00df : LK yJ5_ensureCapacityInternal_d00df cJ5_ensureCapacityInternal_d00df 3 1 none := ⟨lcJ5_ensureCapacityInternal_d00df, liJ5, ⟨by decide +kernel, by decide +kernel⟩, by decide +kernel⟩
set_option maxRecDepth 100000 in
theorem lmJ5_ensureCapacityInternal_d00df : Cond.instanceMethod yJ5_ensureCapacityInternal_d00df ∈ WT := WT_of (tbw_4 (List.mem_of_getElem? (i := 232) rfl)) rfl
set_option maxRecDepth 100000 in
theorem lcJ5_newCapacity_0f7a4 : Cond.code yJ5_newCapacity_0f7a4 cJ5_newCapacity_0f7a4 6 (some .int) ∈ WT := WT_of (tbw_4 (List.mem_of_getElem? (i := 237) rfl)) rfl
theorem lkJ5_newCapacity_0f7a4 : LK yJ5_newCapacity_0f7a4 cJ5_newCapacity_0f7a4 6 1 (some .int) := ⟨lcJ5_newCapacity_0f7a4, liJ5, ⟨by decide +kernel, by decide +kernel⟩, by decide +kernel⟩
set_option maxRecDepth 100000 in
theorem lmJ5_newCapacity_0f7a4 : Cond.instanceMethod yJ5_newCapacity_0f7a4 ∈ WT := WT_of (tbw_4 (List.mem_of_getElem? (i := 236) rfl)) rfl
set_option maxRecDepth 100000 in
theorem lcJ5_append_cf1ce : Cond.code yJ5_append_cf1ce cJ5_append_cf1ce 3 (some (.object "java/lang/AbstractStringBuilder")) ∈ WT := WT_of (tbw_5 (List.mem_of_getElem? (i := 135) rfl)) rfl
theorem lkJ5_append_cf1ce : LK yJ5_append_cf1ce cJ5_append_cf1ce 3 1 (some (.object "java/lang/AbstractStringBuilder")) := ⟨lcJ5_append_cf1ce, liJ5, ⟨by decide +kernel, by decide +kernel⟩, by decide +kernel⟩
set_option maxRecDepth 100000 in
theorem lmJ5_append_cf1ce : Cond.instanceMethod yJ5_append_cf1ce ∈ WT := WT_of (tbw_5 (List.mem_of_getElem? (i := 134) rfl)) rfl
set_option maxRecDepth 100000 in
theorem lcJ5_append_3fe6f : Cond.code yJ5_append_3fe6f cJ5_append_3fe6f 2 (some (.object "java/lang/AbstractStringBuilder")) ∈ WT := WT_of (tbw_4 (List.mem_of_getElem? (i := 229) rfl)) rfl
theorem lkJ5_append_3fe6f : LK yJ5_append_3fe6f cJ5_append_3fe6f 2 1 (some (.object "java/lang/AbstractStringBuilder")) := ⟨lcJ5_append_3fe6f, liJ5, ⟨by decide +kernel, by decide +kernel⟩, by decide +kernel⟩
set_option maxRecDepth 100000 in
theorem lmJ5_append_3fe6f : Cond.instanceMethod yJ5_append_3fe6f ∈ WT := WT_of (tbw_4 (List.mem_of_getElem? (i := 228) rfl)) rfl
set_option maxRecDepth 100000 in
theorem lcJ5_getValue_6d5f1 : Cond.code yJ5_getValue_6d5f1 cJ5_getValue_6d5f1 1 (some (.array .byte)) ∈ WT := WT_of (tbw_5 (List.mem_of_getElem? (i := 72) rfl)) rfl
theorem lkJ5_getValue_6d5f1 : LK yJ5_getValue_6d5f1 cJ5_getValue_6d5f1 1 0 (some (.array .byte)) := ⟨lcJ5_getValue_6d5f1, liJ5, ⟨by decide +kernel, by decide +kernel⟩, by decide +kernel⟩
set_option maxRecDepth 100000 in
theorem lmJ5_getValue_6d5f1 : Cond.instanceMethod yJ5_getValue_6d5f1 ∈ WT := WT_of (tbw_5 (List.mem_of_getElem? (i := 69) rfl)) rfl
set_option maxRecDepth 100000 in
theorem lcJ5_isLatin1_aae02 : Cond.code yJ5_isLatin1_aae02 cJ5_isLatin1_aae02 1 (some .boolean) ∈ WT := WT_of (tbw_5 (List.mem_of_getElem? (i := 25) rfl)) rfl
theorem lkJ5_isLatin1_aae02 : LK yJ5_isLatin1_aae02 cJ5_isLatin1_aae02 1 0 (some .boolean) := ⟨lcJ5_isLatin1_aae02, liJ5, ⟨by decide +kernel, by decide +kernel⟩, by decide +kernel⟩
set_option maxRecDepth 100000 in
theorem lmJ5_isLatin1_aae02 : Cond.instanceMethod yJ5_isLatin1_aae02 ∈ WT := WT_of (tbw_5 (List.mem_of_getElem? (i := 22) rfl)) rfl
set_option maxRecDepth 100000 in
theorem lcJ5_inflateIfNeededFor_a7421 : Cond.code yJ5_inflateIfNeededFor_a7421 cJ5_inflateIfNeededFor_a7421 2 none ∈ WT := WT_of (tbw_5 (List.mem_of_getElem? (i := 151) rfl)) rfl
theorem lkJ5_inflateIfNeededFor_a7421 : LK yJ5_inflateIfNeededFor_a7421 cJ5_inflateIfNeededFor_a7421 2 1 none := ⟨lcJ5_inflateIfNeededFor_a7421, liJ5, ⟨by decide +kernel, by decide +kernel⟩, by decide +kernel⟩
set_option maxRecDepth 100000 in
theorem lmJ5_inflateIfNeededFor_a7421 : Cond.instanceMethod yJ5_inflateIfNeededFor_a7421 ∈ WT := WT_of (tbw_5 (List.mem_of_getElem? (i := 150) rfl)) rfl
set_option maxRecDepth 100000 in
theorem lcJ5_putStringAt_47b60 : Cond.code yJ5_putStringAt_47b60 cJ5_putStringAt_47b60 3 none ∈ WT := WT_of (tbw_5 (List.mem_of_getElem? (i := 147) rfl)) rfl
theorem lkJ5_putStringAt_47b60 : LK yJ5_putStringAt_47b60 cJ5_putStringAt_47b60 3 2 none := ⟨lcJ5_putStringAt_47b60, liJ5, ⟨by decide +kernel, by decide +kernel⟩, by decide +kernel⟩
set_option maxRecDepth 100000 in
theorem lmJ5_putStringAt_47b60 : Cond.instanceMethod yJ5_putStringAt_47b60 ∈ WT := WT_of (tbw_5 (List.mem_of_getElem? (i := 146) rfl)) rfl
set_option maxRecDepth 100000 in
theorem lcJ0_init_81219 : Cond.code yJ0_init_81219 cJ0_init_81219 2 none ∈ WT := WT_of (tbw_5 (List.mem_of_getElem? (i := 63) rfl)) rfl
theorem lkJ0_init_81219 : LK yJ0_init_81219 cJ0_init_81219 2 1 none := ⟨lcJ0_init_81219, liJ0, ⟨by decide +kernel, by decide +kernel⟩, by decide +kernel⟩
set_option maxRecDepth 100000 in
theorem lmJ0_init_81219 : Cond.instanceMethod yJ0_init_81219 ∈ WT := WT_of (tbw_5 (List.mem_of_getElem? (i := 62) rfl)) rfl
set_option maxRecDepth 100000 in
theorem lcJ0_length_8abf5 : Cond.code yJ0_length_8abf5 cJ0_length_8abf5 1 (some .int) ∈ WT := WT_of (tbw_4 (List.mem_of_getElem? (i := 179) rfl)) rfl
theorem lkJ0_length_8abf5 : LK yJ0_length_8abf5 cJ0_length_8abf5 1 0 (some .int) := ⟨lcJ0_length_8abf5, liJ0, ⟨by decide +kernel, by decide +kernel⟩, by decide +kernel⟩
set_option maxRecDepth 100000 in
theorem lmJ0_length_8abf5 : Cond.instanceMethod yJ0_length_8abf5 ∈ WT := WT_of (tbw_4 (List.mem_of_getElem? (i := 177) rfl)) rfl
set_option maxRecDepth 100000 in
theorem lvJ0_length_8abf5 : Cond.selects yJ0_length_8abf5.cls yJ0_length_8abf5 yJ0_length_8abf5 ∈ WT := WT_of (tbw_4 (List.mem_of_getElem? (i := 178) rfl)) rfl
set_option maxRecDepth 100000 in
theorem lcJ0_charAt_5068e : Cond.code yJ0_charAt_5068e cJ0_charAt_5068e 2 (some .char) ∈ WT := WT_of (tbw_4 (List.mem_of_getElem? (i := 188) rfl)) rfl
theorem lkJ0_charAt_5068e : LK yJ0_charAt_5068e cJ0_charAt_5068e 2 1 (some .char) := ⟨lcJ0_charAt_5068e, liJ0, ⟨by decide +kernel, by decide +kernel⟩, by decide +kernel⟩
set_option maxRecDepth 100000 in
theorem lmJ0_charAt_5068e : Cond.instanceMethod yJ0_charAt_5068e ∈ WT := WT_of (tbw_4 (List.mem_of_getElem? (i := 186) rfl)) rfl
set_option maxRecDepth 100000 in
theorem lvJ0_charAt_5068e : Cond.selects yJ0_charAt_5068e.cls yJ0_charAt_5068e yJ0_charAt_5068e ∈ WT := WT_of (tbw_4 (List.mem_of_getElem? (i := 187) rfl)) rfl
set_option maxRecDepth 100000 in
theorem lcJ0_getBytes_840e7 : Cond.code yJ0_getBytes_840e7 cJ0_getBytes_840e7 4 none ∈ WT := WT_of (tbw_5 (List.mem_of_getElem? (i := 156) rfl)) rfl
theorem lkJ0_getBytes_840e7 : LK yJ0_getBytes_840e7 cJ0_getBytes_840e7 4 3 none := ⟨lcJ0_getBytes_840e7, liJ0, ⟨by decide +kernel, by decide +kernel⟩, by decide +kernel⟩
set_option maxRecDepth 100000 in
theorem lmJ0_getBytes_840e7 : Cond.instanceMethod yJ0_getBytes_840e7 ∈ WT := WT_of (tbw_5 (List.mem_of_getElem? (i := 154) rfl)) rfl
set_option maxRecDepth 100000 in
theorem lvJ0_getBytes_840e7 : Cond.selects yJ0_getBytes_840e7.cls yJ0_getBytes_840e7 yJ0_getBytes_840e7 ∈ WT := WT_of (tbw_5 (List.mem_of_getElem? (i := 155) rfl)) rfl
set_option maxRecDepth 100000 in
theorem lcJ0_init_db425 : Cond.code yJ0_init_db425 cJ0_init_db425 5 none ∈ WT := WT_of (tbw_5 (List.mem_of_getElem? (i := 66) rfl)) rfl
theorem lkJ0_init_db425 : LK yJ0_init_db425 cJ0_init_db425 5 2 none := ⟨lcJ0_init_db425, liJ0, ⟨by decide +kernel, by decide +kernel⟩, by decide +kernel⟩
set_option maxRecDepth 100000 in
theorem lmJ0_init_db425 : Cond.instanceMethod yJ0_init_db425 ∈ WT := WT_of (tbw_5 (List.mem_of_getElem? (i := 65) rfl)) rfl
set_option maxRecDepth 100000 in
theorem lcJ0_coder_7d493 : Cond.code yJ0_coder_7d493 cJ0_coder_7d493 1 (some .byte) ∈ WT := WT_of (tbw_4 (List.mem_of_getElem? (i := 183) rfl)) rfl
theorem lkJ0_coder_7d493 : LK yJ0_coder_7d493 cJ0_coder_7d493 1 0 (some .byte) := ⟨lcJ0_coder_7d493, liJ0, ⟨by decide +kernel, by decide +kernel⟩, by decide +kernel⟩
set_option maxRecDepth 100000 in
theorem lmJ0_coder_7d493 : Cond.instanceMethod yJ0_coder_7d493 ∈ WT := WT_of (tbw_4 (List.mem_of_getElem? (i := 181) rfl)) rfl
set_option maxRecDepth 100000 in
theorem lvJ0_coder_7d493 : Cond.selects yJ0_coder_7d493.cls yJ0_coder_7d493 yJ0_coder_7d493 ∈ WT := WT_of (tbw_4 (List.mem_of_getElem? (i := 182) rfl)) rfl
set_option maxRecDepth 100000 in
theorem lcJ0_isLatin1_aae02 : Cond.code yJ0_isLatin1_aae02 cJ0_isLatin1_aae02 1 (some .boolean) ∈ WT := WT_of (tbw_4 (List.mem_of_getElem? (i := 192) rfl)) rfl
theorem lkJ0_isLatin1_aae02 : LK yJ0_isLatin1_aae02 cJ0_isLatin1_aae02 1 0 (some .boolean) := ⟨lcJ0_isLatin1_aae02, liJ0, ⟨by decide +kernel, by decide +kernel⟩, by decide +kernel⟩
set_option maxRecDepth 100000 in
theorem lmJ0_isLatin1_aae02 : Cond.instanceMethod yJ0_isLatin1_aae02 ∈ WT := WT_of (tbw_4 (List.mem_of_getElem? (i := 190) rfl)) rfl
set_option maxRecDepth 100000 in
theorem lvJ0_isLatin1_aae02 : Cond.selects yJ0_isLatin1_aae02.cls yJ0_isLatin1_aae02 yJ0_isLatin1_aae02 ∈ WT := WT_of (tbw_4 (List.mem_of_getElem? (i := 191) rfl)) rfl
set_option maxRecDepth 100000 in
theorem lcJ0_checkIndex_df160 : Cond.code yJ0_checkIndex_df160 cJ0_checkIndex_df160 2 none ∈ WT := WT_of (tbw_4 (List.mem_of_getElem? (i := 198) rfl)) rfl
theorem lkJ0_checkIndex_df160 : LK yJ0_checkIndex_df160 cJ0_checkIndex_df160 2 2 none := ⟨lcJ0_checkIndex_df160, liJ0, ⟨by decide +kernel, by decide +kernel⟩, by decide +kernel⟩
set_option maxRecDepth 100000 in
theorem lsJ0_checkIndex_df160 : Cond.static yJ0_checkIndex_df160 ∈ WT := WT_of (tbw_4 (List.mem_of_getElem? (i := 197) rfl)) rfl
set_option maxRecDepth 100000 in
theorem lcJ4_init_da8c8 : Cond.code yJ4_init_da8c8 cJ4_init_da8c8 1 none ∈ WT := WT_of (tbw_4 (List.mem_of_getElem? (i := 145) rfl)) rfl
theorem lkJ4_init_da8c8 : LK yJ4_init_da8c8 cJ4_init_da8c8 1 0 none := ⟨lcJ4_init_da8c8, liJ4, ⟨by decide +kernel, by decide +kernel⟩, by decide +kernel⟩
set_option maxRecDepth 100000 in
theorem lmJ4_init_da8c8 : Cond.instanceMethod yJ4_init_da8c8 ∈ WT := WT_of (tbw_4 (List.mem_of_getElem? (i := 144) rfl)) rfl
set_option maxRecDepth 100000 in
theorem lcJ4_append_15ec4 : Cond.code yJ4_append_15ec4 cJ4_append_15ec4 2 (some (.object "java/lang/StringBuilder")) ∈ WT := WT_of (tbw_5 (List.mem_of_getElem? (i := 132) rfl)) rfl
theorem lkJ4_append_15ec4 : LK yJ4_append_15ec4 cJ4_append_15ec4 2 1 (some (.object "java/lang/StringBuilder")) := ⟨lcJ4_append_15ec4, liJ4, ⟨by decide +kernel, by decide +kernel⟩, by decide +kernel⟩
set_option maxRecDepth 100000 in
theorem lmJ4_append_15ec4 : Cond.instanceMethod yJ4_append_15ec4 ∈ WT := WT_of (tbw_5 (List.mem_of_getElem? (i := 130) rfl)) rfl
set_option maxRecDepth 100000 in
theorem lvJ4_append_15ec4 : Cond.selects yJ4_append_15ec4.cls yJ4_append_15ec4 yJ4_append_15ec4 ∈ WT := WT_of (tbw_5 (List.mem_of_getElem? (i := 131) rfl)) rfl
set_option maxRecDepth 100000 in
theorem lcJ4_append_cf468 : Cond.code yJ4_append_cf468 cJ4_append_cf468 2 (some (.object "java/lang/StringBuilder")) ∈ WT := WT_of (tbw_4 (List.mem_of_getElem? (i := 226) rfl)) rfl
theorem lkJ4_append_cf468 : LK yJ4_append_cf468 cJ4_append_cf468 2 1 (some (.object "java/lang/StringBuilder")) := ⟨lcJ4_append_cf468, liJ4, ⟨by decide +kernel, by decide +kernel⟩, by decide +kernel⟩
set_option maxRecDepth 100000 in
theorem lmJ4_append_cf468 : Cond.instanceMethod yJ4_append_cf468 ∈ WT := WT_of (tbw_4 (List.mem_of_getElem? (i := 224) rfl)) rfl
set_option maxRecDepth 100000 in
theorem lvJ4_append_cf468 : Cond.selects yJ4_append_cf468.cls yJ4_append_cf468 yJ4_append_cf468 ∈ WT := WT_of (tbw_4 (List.mem_of_getElem? (i := 225) rfl)) rfl
set_option maxRecDepth 100000 in
theorem lcJ4_toString_0e30d : Cond.code yJ4_toString_0e30d cJ4_toString_0e30d 1 (some (.object "java/lang/String")) ∈ WT := WT_of (tbw_5 (List.mem_of_getElem? (i := 58) rfl)) rfl
theorem lkJ4_toString_0e30d : LK yJ4_toString_0e30d cJ4_toString_0e30d 1 0 (some (.object "java/lang/String")) := ⟨lcJ4_toString_0e30d, liJ4, ⟨by decide +kernel, by decide +kernel⟩, by decide +kernel⟩
set_option maxRecDepth 100000 in
theorem lmJ4_toString_0e30d : Cond.instanceMethod yJ4_toString_0e30d ∈ WT := WT_of (tbw_5 (List.mem_of_getElem? (i := 56) rfl)) rfl
set_option maxRecDepth 100000 in
theorem lvJ4_toString_0e30d : Cond.selects yJ4_toString_0e30d.cls yJ4_toString_0e30d yJ4_toString_0e30d ∈ WT := WT_of (tbw_5 (List.mem_of_getElem? (i := 57) rfl)) rfl
set_option maxRecDepth 100000 in
theorem lcJ4_length_8abf5 : Cond.code yJ4_length_8abf5 cJ4_length_8abf5 1 (some .int) ∈ WT := WT_of (tbw_5 (List.mem_of_getElem? (i := 78) rfl)) rfl
theorem lkJ4_length_8abf5 : LK yJ4_length_8abf5 cJ4_length_8abf5 1 0 (some .int) := ⟨lcJ4_length_8abf5, liJ4, ⟨by decide +kernel, by decide +kernel⟩, by decide +kernel⟩
set_option maxRecDepth 100000 in
theorem lmJ4_length_8abf5 : Cond.instanceMethod yJ4_length_8abf5 ∈ WT := WT_of (tbw_5 (List.mem_of_getElem? (i := 77) rfl)) rfl
set_option maxRecDepth 100000 in
theorem lcJ1_charAt_3b067 : Cond.code yJ1_charAt_3b067 cJ1_charAt_3b067 2 (some .char) ∈ WT := WT_of (tbw_4 (List.mem_of_getElem? (i := 195) rfl)) rfl
theorem lkJ1_charAt_3b067 : LK yJ1_charAt_3b067 cJ1_charAt_3b067 2 2 (some .char) := ⟨lcJ1_charAt_3b067, liJ1, ⟨by decide +kernel, by decide +kernel⟩, by decide +kernel⟩
set_option maxRecDepth 100000 in
theorem lsJ1_charAt_3b067 : Cond.static yJ1_charAt_3b067 ∈ WT := WT_of (tbw_4 (List.mem_of_getElem? (i := 194) rfl)) rfl
set_option maxRecDepth 100000 in
theorem lcJ1_canEncode_fc78d : Cond.code yJ1_canEncode_fc78d cJ1_canEncode_fc78d 1 (some .boolean) ∈ WT := WT_of (tbw_5 (List.mem_of_getElem? (i := 28) rfl)) rfl
theorem lkJ1_canEncode_fc78d : LK yJ1_canEncode_fc78d cJ1_canEncode_fc78d 1 1 (some .boolean) := ⟨lcJ1_canEncode_fc78d, liJ1, ⟨by decide +kernel, by decide +kernel⟩, by decide +kernel⟩
set_option maxRecDepth 100000 in
theorem lsJ1_canEncode_fc78d : Cond.static yJ1_canEncode_fc78d ∈ WT := WT_of (tbw_5 (List.mem_of_getElem? (i := 27) rfl)) rfl
set_option maxRecDepth 100000 in
theorem lcJ7_copyOf_9075b : Cond.code yJ7_copyOf_9075b cJ7_copyOf_9075b 3 (some (.array .byte)) ∈ WT := WT_of (tbw_5 (List.mem_of_getElem? (i := 9) rfl)) rfl
theorem lkJ7_copyOf_9075b : LK yJ7_copyOf_9075b cJ7_copyOf_9075b 3 2 (some (.array .byte)) := ⟨lcJ7_copyOf_9075b, liJ7, ⟨by decide +kernel, by decide +kernel⟩, by decide +kernel⟩
set_option maxRecDepth 100000 in
theorem lsJ7_copyOf_9075b : Cond.static yJ7_copyOf_9075b ∈ WT := WT_of (tbw_5 (List.mem_of_getElem? (i := 8) rfl)) rfl
set_option maxRecDepth 100000 in
theorem lcJ7_checkLength_df160 : Cond.code yJ7_checkLength_df160 cJ7_checkLength_df160 2 none ∈ WT := WT_of (tbw_5 (List.mem_of_getElem? (i := 90) rfl)) rfl
theorem lkJ7_checkLength_df160 : LK yJ7_checkLength_df160 cJ7_checkLength_df160 2 2 none := ⟨lcJ7_checkLength_df160, liJ7, ⟨by decide +kernel, by decide +kernel⟩, by decide +kernel⟩
set_option maxRecDepth 100000 in
theorem lsJ7_checkLength_df160 : Cond.static yJ7_checkLength_df160 ∈ WT := WT_of (tbw_5 (List.mem_of_getElem? (i := 89) rfl)) rfl
set_option maxRecDepth 100000 in
theorem lcJ7_copyOfRange_39247 : Cond.code yJ7_copyOfRange_39247 cJ7_copyOfRange_39247 3 (some (.array .byte)) ∈ WT := WT_of (tbw_5 (List.mem_of_getElem? (i := 84) rfl)) rfl
theorem lkJ7_copyOfRange_39247 : LK yJ7_copyOfRange_39247 cJ7_copyOfRange_39247 3 3 (some (.array .byte)) := ⟨lcJ7_copyOfRange_39247, liJ7, ⟨by decide +kernel, by decide +kernel⟩, by decide +kernel⟩
set_option maxRecDepth 100000 in
theorem lsJ7_copyOfRange_39247 : Cond.static yJ7_copyOfRange_39247 ∈ WT := WT_of (tbw_5 (List.mem_of_getElem? (i := 83) rfl)) rfl
set_option maxRecDepth 100000 in
theorem lcJ7_copyOfRangeByte_39247 : Cond.code yJ7_copyOfRangeByte_39247 cJ7_copyOfRangeByte_39247 5 (some (.array .byte)) ∈ WT := WT_of (tbw_5 (List.mem_of_getElem? (i := 87) rfl)) rfl
theorem lkJ7_copyOfRangeByte_39247 : LK yJ7_copyOfRangeByte_39247 cJ7_copyOfRangeByte_39247 5 3 (some (.array .byte)) := ⟨lcJ7_copyOfRangeByte_39247, liJ7, ⟨by decide +kernel, by decide +kernel⟩, by decide +kernel⟩
set_option maxRecDepth 100000 in
theorem lsJ7_copyOfRangeByte_39247 : Cond.static yJ7_copyOfRangeByte_39247 ∈ WT := WT_of (tbw_5 (List.mem_of_getElem? (i := 86) rfl)) rfl
set_option maxRecDepth 100000 in
theorem lcJ8_newLength_cabcc : Cond.code yJ8_newLength_cabcc cJ8_newLength_cabcc 4 (some .int) ∈ WT := WT_of (tbw_5 (List.mem_of_getElem? (i := 0) rfl)) rfl
theorem lkJ8_newLength_cabcc : LK yJ8_newLength_cabcc cJ8_newLength_cabcc 4 3 (some .int) := ⟨lcJ8_newLength_cabcc, liJ8, ⟨by decide +kernel, by decide +kernel⟩, by decide +kernel⟩
set_option maxRecDepth 100000 in
theorem lsJ8_newLength_cabcc : Cond.static yJ8_newLength_cabcc ∈ WT := WT_of (tbw_4 (List.mem_of_getElem? (i := 239) rfl)) rfl
set_option maxRecDepth 100000 in
theorem lcJ3_checkIndex_8e157 : Cond.code yJ3_checkIndex_8e157 cJ3_checkIndex_8e157 3 (some .int) ∈ WT := WT_of (tbw_4 (List.mem_of_getElem? (i := 203) rfl)) rfl
theorem lkJ3_checkIndex_8e157 : LK yJ3_checkIndex_8e157 cJ3_checkIndex_8e157 3 3 (some .int) := ⟨lcJ3_checkIndex_8e157, liJ3, ⟨by decide +kernel, by decide +kernel⟩, by decide +kernel⟩
set_option maxRecDepth 100000 in
theorem lsJ3_checkIndex_8e157 : Cond.static yJ3_checkIndex_8e157 ∈ WT := WT_of (tbw_4 (List.mem_of_getElem? (i := 202) rfl)) rfl
set_option maxRecDepth 100000 in
theorem mlJ0_335 : Cond.methodLink RJ0 335 yJ0_coder_7d493 ∈ WT := WT_of (tbw_4 (List.mem_of_getElem? (i := 180) rfl)) rfl
set_option maxRecDepth 100000 in
theorem mlJ0_492 : Cond.methodLink RJ0 492 yJ0_isLatin1_aae02 ∈ WT := WT_of (tbw_4 (List.mem_of_getElem? (i := 189) rfl)) rfl
set_option maxRecDepth 100000 in
theorem mlJ0_495 : Cond.methodLink RJ0 495 yJ1_charAt_3b067 ∈ WT := WT_of (tbw_4 (List.mem_of_getElem? (i := 193) rfl)) rfl
set_option maxRecDepth 100000 in
theorem mlJ0_1059 : Cond.methodLink RJ0 1059 yJ3_checkIndex_8e157 ∈ WT := WT_of (tbw_4 (List.mem_of_getElem? (i := 201) rfl)) rfl
set_option maxRecDepth 100000 in
theorem mlJ0_489 : Cond.methodLink RJ0 489 yJ0_init_db425 ∈ WT := WT_of (tbw_5 (List.mem_of_getElem? (i := 64) rfl)) rfl
set_option maxRecDepth 100000 in
theorem mlJ0_552 : Cond.methodLink RJ0 552 yJ5_getValue_6d5f1 ∈ WT := WT_of (tbw_5 (List.mem_of_getElem? (i := 68) rfl)) rfl
set_option maxRecDepth 100000 in
theorem mlJ0_549 : Cond.methodLink RJ0 549 yJ5_length_8abf5 ∈ WT := WT_of (tbw_5 (List.mem_of_getElem? (i := 73) rfl)) rfl
set_option maxRecDepth 100000 in
theorem mlJ0_1047 : Cond.methodLink RJ0 1047 yJ5_isLatin1_aae02 ∈ WT := WT_of (tbw_5 (List.mem_of_getElem? (i := 81) rfl)) rfl
set_option maxRecDepth 100000 in
theorem mlJ0_54 : Cond.methodLink RJ0 54 yJ7_copyOfRange_39247 ∈ WT := WT_of (tbw_5 (List.mem_of_getElem? (i := 82) rfl)) rfl
set_option maxRecDepth 100000 in
theorem mlJ1_9 : Cond.methodLink RJ1 9 yJ0_checkIndex_df160 ∈ WT := WT_of (tbw_4 (List.mem_of_getElem? (i := 196) rfl)) rfl
set_option maxRecDepth 100000 in
theorem mlJ4_1 : Cond.methodLink RJ4 1 yJ5_init_d00df ∈ WT := WT_of (tbw_4 (List.mem_of_getElem? (i := 146) rfl)) rfl
set_option maxRecDepth 100000 in
theorem mlJ4_50 : Cond.methodLink RJ4 50 yJ5_append_3fe6f ∈ WT := WT_of (tbw_4 (List.mem_of_getElem? (i := 227) rfl)) rfl
set_option maxRecDepth 100000 in
theorem mlJ4_137 : Cond.methodLink RJ4 137 yJ0_init_81219 ∈ WT := WT_of (tbw_5 (List.mem_of_getElem? (i := 61) rfl)) rfl
set_option maxRecDepth 100000 in
theorem mlJ4_343 : Cond.methodLink RJ4 343 yJ5_length_8abf5 ∈ WT := WT_of (tbw_5 (List.mem_of_getElem? (i := 79) rfl)) rfl
set_option maxRecDepth 100000 in
theorem mlJ4_29 : Cond.methodLink RJ4 29 yJ5_append_cf1ce ∈ WT := WT_of (tbw_5 (List.mem_of_getElem? (i := 133) rfl)) rfl
set_option maxRecDepth 100000 in
theorem mlJ5_100 : Cond.methodLink RJ5 100 yJ5_ensureCapacityInternal_d00df ∈ WT := WT_of (tbw_4 (List.mem_of_getElem? (i := 230) rfl)) rfl
set_option maxRecDepth 100000 in
theorem mlJ5_104 : Cond.methodLink RJ5 104 yJ5_newCapacity_0f7a4 ∈ WT := WT_of (tbw_4 (List.mem_of_getElem? (i := 234) rfl)) rfl
set_option maxRecDepth 100000 in
theorem mlJ5_114 : Cond.methodLink RJ5 114 yJ8_newLength_cabcc ∈ WT := WT_of (tbw_4 (List.mem_of_getElem? (i := 238) rfl)) rfl
set_option maxRecDepth 100000 in
theorem mlJ5_108 : Cond.methodLink RJ5 108 yJ7_copyOf_9075b ∈ WT := WT_of (tbw_5 (List.mem_of_getElem? (i := 7) rfl)) rfl
set_option maxRecDepth 100000 in
theorem mlJ5_83 : Cond.methodLink RJ5 83 yJ5_isLatin1_aae02 ∈ WT := WT_of (tbw_5 (List.mem_of_getElem? (i := 21) rfl)) rfl
set_option maxRecDepth 100000 in
theorem mlJ5_191 : Cond.methodLink RJ5 191 yJ1_canEncode_fc78d ∈ WT := WT_of (tbw_5 (List.mem_of_getElem? (i := 26) rfl)) rfl
set_option maxRecDepth 100000 in
theorem mlJ5_32 : Cond.methodLink RJ5 32 yJ0_length_8abf5 ∈ WT := WT_of (tbw_5 (List.mem_of_getElem? (i := 143) rfl)) rfl
set_option maxRecDepth 100000 in
theorem mlJ5_208 : Cond.methodLink RJ5 208 yJ5_putStringAt_47b60 ∈ WT := WT_of (tbw_5 (List.mem_of_getElem? (i := 144) rfl)) rfl
set_option maxRecDepth 100000 in
theorem mlJ5_397 : Cond.methodLink RJ5 397 yJ5_inflateIfNeededFor_a7421 ∈ WT := WT_of (tbw_5 (List.mem_of_getElem? (i := 148) rfl)) rfl
set_option maxRecDepth 100000 in
theorem mlJ5_40 : Cond.methodLink RJ5 40 yJ0_coder_7d493 ∈ WT := WT_of (tbw_5 (List.mem_of_getElem? (i := 152) rfl)) rfl
set_option maxRecDepth 100000 in
theorem mlJ5_399 : Cond.methodLink RJ5 399 yJ0_getBytes_840e7 ∈ WT := WT_of (tbw_5 (List.mem_of_getElem? (i := 153) rfl)) rfl
set_option maxRecDepth 100000 in
theorem mlJ7_304 : Cond.methodLink RJ7 304 yJ9_min_7cf53 ∈ WT := WT_of (tbw_5 (List.mem_of_getElem? (i := 17) rfl)) rfl
set_option maxRecDepth 100000 in
theorem mlJ7_339 : Cond.methodLink RJ7 339 yJ7_copyOfRangeByte_39247 ∈ WT := WT_of (tbw_5 (List.mem_of_getElem? (i := 85) rfl)) rfl
set_option maxRecDepth 100000 in
theorem mlJ7_343 : Cond.methodLink RJ7 343 yJ7_checkLength_df160 ∈ WT := WT_of (tbw_5 (List.mem_of_getElem? (i := 88) rfl)) rfl
set_option maxRecDepth 100000 in
theorem mlJ8_194 : Cond.methodLink RJ8 194 yJ9_max_7cf53 ∈ WT := WT_of (tbw_5 (List.mem_of_getElem? (i := 1) rfl)) rfl
end U98blinkT
section U98cinit
/-! the constructors of the class: types for new cells (printed by wip/p40/genInit.py) -/
def Sub (Γ Γ' : TY) : Prop := ∀ (a : Nat) (φ : AC → Prop), Γ a = some φ → Γ' a = some φ
theorem Sub.rf (Γ : TY) : Sub Γ Γ := fun _ _ h => h
theorem Sub.trans {Γ Γ1 Γ2 : TY} (a : Sub Γ Γ1) (b : Sub Γ1 Γ2) : Sub Γ Γ2 := fun x φ h => b x φ (a x φ h)
theorem TermT.mono {Γ Γ' : TY} (S : Sub Γ Γ') {b L : Nat} (T : TermT Γ b L) : TermT Γ' b L := by
  obtain ⟨h, q, g1, g2⟩ := T
  exact ⟨h, q, S _ _ g1, S _ _ g2⟩
theorem PairsT.mono {Γ Γ' : TY} (S : Sub Γ Γ') {b : Nat} (T : PairsT Γ b) : PairsT Γ' b := by
  obtain ⟨x, y, g1, g2, g3⟩ := T
  exact ⟨x, y, S _ _ g1, S _ _ g2, S _ _ g3⟩
theorem AnsT.mono {Γ Γ' : TY} (S : Sub Γ Γ') {b : Nat} (T : AnsT Γ b) : AnsT Γ' b := by
  obtain ⟨x, y, g1, g2, g3, g4⟩ := T
  exact ⟨x, y, S _ _ g1, S _ _ g2, g3, fun t ht => (g4 t ht).mono S⟩
theorem StepsT.mono {Γ Γ' : TY} (S : Sub Γ Γ') {b : Nat} (T : StepsT Γ b) : StepsT Γ' b := by
  obtain ⟨x, y, z, g1, g2, g3, g4⟩ := T
  exact ⟨x, y, z, S _ _ g1, g2.mono S, S _ _ g3, g4.mono S⟩
theorem ClassT.mono {Γ Γ' : TY} (S : Sub Γ Γ') {b : Nat} (T : ClassT Γ b) : ClassT Γ' b := by
  obtain ⟨x, y, z, u, w, g1, g2, g3, g4, g5, g6⟩ := T
  exact ⟨x, y, z, u, w, S _ _ g1, g2.mono S, S _ _ g3, S _ _ g4, S _ _ g5, g6.mono S⟩
theorem ShapeT.mono {Γ Γ' : TY} (S : Sub Γ Γ') {b : Nat} (T : ShapeT Γ b) : ShapeT Γ' b := by
  obtain ⟨x, g1, g2⟩ := T
  exact ⟨x, S _ _ g1, g2.mono S⟩
/-- types are of the class's kinds -/
def KG (Γ : TY) : Prop := ∀ (a : Nat) (φ : AC → Prop), Γ a = some φ → ∀ c, φ c → ck c.1 = true
def tup (Γ : TY) (q : Nat) (φ : AC → Prop) : TY := fun a => if a = q then some φ else Γ a
theorem tup_self (Γ : TY) (q : Nat) (φ : AC → Prop) : tup Γ q φ q = some φ := if_pos rfl
theorem tup_ne (Γ : TY) {a q : Nat} (φ : AC → Prop) (h : a ≠ q) : tup Γ q φ a = Γ a := if_neg h
theorem Tyg.fresh {Γ : TY} {h : AH} (I : Tyg Γ h) {q : Nat} (hq : h q = none) : Γ q = none := by
  cases e : Γ q with
  | none => rfl
  | some φ => obtain ⟨c, hc, -⟩ := I q φ e; rw [hq] at hc; cases hc
theorem Tyg.frame {Γ : TY} {h h' : AH} (I : Tyg Γ h) (hk : ∀ (a : Nat) (φ : AC → Prop), Γ a = some φ → h' a = h a) : Tyg Γ h' := fun a φ e => by
  rw [hk a φ e]
  exact I a φ e
theorem Tyg.add {Γ : TY} {h : AH} (I : Tyg Γ h) {q : Nat} {c : AC} {φ : AC → Prop} (hq : h q = some c) (hc : φ c) : Tyg (tup Γ q φ) h := by
  intro a ψ e
  by_cases z : a = q
  · rw [z, tup_self] at e
    cases e
    exact ⟨c, by rw [z]; exact hq, hc⟩
  · rw [tup_ne _ _ z] at e
    exact I a ψ e
theorem KG.add {Γ : TY} (K : KG Γ) {q : Nat} {φ : AC → Prop} (hφ : ∀ c, φ c → ck c.1 = true) : KG (tup Γ q φ) := by
  intro a ψ e
  by_cases z : a = q
  · rw [z, tup_self] at e
    cases e
    exact hφ
  · rw [tup_ne _ _ z] at e
    exact K a ψ e
theorem Tyg.setc {Γ : TY} {h : AH} (I : Tyg Γ h) {q : Nat} (gq : Γ q = none) (c : AC) : Tyg Γ (hup h q c) := I.frame (fun a φ e => hup_ne _ _ (fun z => by rw [z, gq] at e; cases e))
set_option maxRecDepth 100000 in
theorem acInt : Cond.arrayClass .int ∈ WT := WT_of (by decide +kernel) rfl
set_option maxRecDepth 100000 in
theorem ml0_obj : Cond.methodLink RX0 3 Lib.objectInit ∈ WT := WT_of (tbw_1 (List.mem_of_getElem? (i := 64) rfl)) rfl
set_option maxRecDepth 100000 in
theorem ml1_obj : Cond.methodLink RX1 3 Lib.objectInit ∈ WT := WT_of (tbw_1 (List.mem_of_getElem? (i := 128) rfl)) rfl
set_option maxRecDepth 100000 in
theorem ml2_obj : Cond.methodLink RX2 3 Lib.objectInit ∈ WT := WT_of (tbw_1 (List.mem_of_getElem? (i := 96) rfl)) rfl
set_option maxRecDepth 100000 in
theorem ml3_obj : Cond.methodLink RX3 3 Lib.objectInit ∈ WT := WT_of (tbw_1 (List.mem_of_getElem? (i := 154) rfl)) rfl
set_option maxRecDepth 100000 in
theorem ml4_obj : Cond.methodLink RX4 3 Lib.objectInit ∈ WT := WT_of (tbw_1 (List.mem_of_getElem? (i := 88) rfl)) rfl
set_option maxRecDepth 100000 in
theorem ml5_obj : Cond.methodLink RX5 3 Lib.objectInit ∈ WT := WT_of (tbw_1 (List.mem_of_getElem? (i := 45) rfl)) rfl
set_option maxRecDepth 100000 in
theorem ml6_obj : Cond.methodLink RX6 1 Lib.objectInit ∈ WT := WT_of (tbw_1 (List.mem_of_getElem? (i := 34) rfl)) rfl
theorem nc0_9 : NC RX0 9 7 [.null, .int 0, .int 0] := by
  refine ⟨RX5, TX5, 3, tyX5, rfl, cwX5, tyX5_ok, rfl, fun j hj => ?_, WT_of (by decide +kernel) rfl, WT_of (by decide +kernel) rfl, liX5⟩
  match j, hj with
  | 0, _ => rfl
  | 1, _ => rfl
  | 2, _ => rfl
theorem nc4_9 : NC RX4 9 7 [.null, .int 0, .int 0] := by
  refine ⟨RX5, TX5, 3, tyX5, rfl, cwX5, tyX5_ok, rfl, fun j hj => ?_, WT_of (by decide +kernel) rfl, WT_of (by decide +kernel) rfl, liX5⟩
  match j, hj with
  | 0, _ => rfl
  | 1, _ => rfl
  | 2, _ => rfl
theorem nc4_24 : NC RX4 24 4 [.null, .null, .int 0] := by
  refine ⟨RX2, TX2, 3, tyX2, rfl, cwX2, tyX2_ok, rfl, fun j hj => ?_, WT_of (by decide +kernel) rfl, WT_of (by decide +kernel) rfl, liX2⟩
  match j, hj with
  | 0, _ => rfl
  | 1, _ => rfl
  | 2, _ => rfl
theorem nc1_9 : NC RX1 9 7 [.null, .int 0, .int 0] := by
  refine ⟨RX5, TX5, 3, tyX5, rfl, cwX5, tyX5_ok, rfl, fun j hj => ?_, WT_of (by decide +kernel) rfl, WT_of (by decide +kernel) rfl, liX5⟩
  match j, hj with
  | 0, _ => rfl
  | 1, _ => rfl
  | 2, _ => rfl
theorem nc1_30 : NC RX1 30 4 [.null, .null, .int 0] := by
  refine ⟨RX2, TX2, 3, tyX2, rfl, cwX2, tyX2_ok, rfl, fun j hj => ?_, WT_of (by decide +kernel) rfl, WT_of (by decide +kernel) rfl, liX2⟩
  match j, hj with
  | 0, _ => rfl
  | 1, _ => rfl
  | 2, _ => rfl
theorem nc3_9 : NC RX3 9 4 [.null, .null, .int 0] := by
  refine ⟨RX2, TX2, 3, tyX2, rfl, cwX2, tyX2_ok, rfl, fun j hj => ?_, WT_of (by decide +kernel) rfl, WT_of (by decide +kernel) rfl, liX2⟩
  match j, hj with
  | 0, _ => rfl
  | 1, _ => rfl
  | 2, _ => rfl
theorem nc6_9 : NC RX6 9 7 [.null, .int 0, .int 0] := by
  refine ⟨RX5, TX5, 3, tyX5, rfl, cwX5, tyX5_ok, rfl, fun j hj => ?_, WT_of (by decide +kernel) rfl, WT_of (by decide +kernel) rfl, liX5⟩
  match j, hj with
  | 0, _ => rfl
  | 1, _ => rfl
  | 2, _ => rfl
theorem nc6_15 : NC RX6 15 2 [.null] := by
  refine ⟨RX0, TX0, 1, tyX0, rfl, cwX0, tyX0_ok, rfl, fun j hj => ?_, WT_of (by decide +kernel) rfl, WT_of (by decide +kernel) rfl, liX0⟩
  match j, hj with
  | 0, _ => rfl
theorem nc6_45 : NC RX6 45 6 [.null, .null, .null, .int 0, .int 0] := by
  refine ⟨RX4, TX4, 5, tyX4, rfl, cwX4, tyX4_ok, rfl, fun j hj => ?_, WT_of (by decide +kernel) rfl, WT_of (by decide +kernel) rfl, liX4⟩
  match j, hj with
  | 0, _ => rfl
  | 1, _ => rfl
  | 2, _ => rfl
  | 3, _ => rfl
  | 4, _ => rfl
theorem nc6_52 : NC RX6 52 3 [.null, .null, .null, .null, .null] := by
  refine ⟨RX1, TX1, 5, tyX1, rfl, cwX1, tyX1_ok, rfl, fun j hj => ?_, WT_of (by decide +kernel) rfl, WT_of (by decide +kernel) rfl, liX1⟩
  match j, hj with
  | 0, _ => rfl
  | 1, _ => rfl
  | 2, _ => rfl
  | 3, _ => rfl
  | 4, _ => rfl
theorem nc6_59 : NC RX6 59 5 [.null] := by
  refine ⟨RX3, TX3, 1, tyX3, rfl, cwX3, tyX3_ok, rfl, fun j hj => ?_, WT_of (by decide +kernel) rfl, WT_of (by decide +kernel) rfl, liX3⟩
  match j, hj with
  | 0, _ => rfl
section CIN
variable {p : Program} {la : Launch} {e : Env} {R : Room} {s : State} {m : MethodId} {args : Array Value} {below : List Frame} {meth : Method} {c : Code} {Q : State → Prop}
variable {D : va_G} {cA : Nat → ClassId} {B0 pa nL : Nat} {cc : ByteArray} {own : String} {pc k n : Nat} {l : List (Nat × Value)} {r : List Value} {h : AH}
theorem callIN_ok (X : CX p s m args c D cA B0 nL cc own) (E : EN D cA B0 pa s) {y : MethodName} {host : String} {bytes : ByteArray} {maxL idx b : Nat} {rm : Room} {av : List Value} {post : Option Value → AH → Prop}
    (hM : CT la D cA B0 pa y bytes maxL none rm (.ref b :: av) h post) (hL : LK y bytes maxL av.length none) (hl : Cond.methodLinkNest own idx y host ∈ lw_tbl) (hi : Cond.instanceMethod y ∈ WT) (hn : y.name = "<init>") (hR : rm.frames + 1 ≤ R.frames ∧ 8 + (maxL + 11) + rm.locals ≤ R.locals) (hf : k + rm.cells ≤ R.cells ∧ n + rm.slots ≤ R.slots)
    (hW : (r.map fun v => v.category).sum ≤ 8) (hd : decode cc pc = .ok (.invokespecial idx, 3))
    (kk : ∀ (v : Option Value) (h' : AH), post v h' → WS p la e R s m args below meth c Q D cA B0 nL (pc + 3) l (v.toList ++ r) h' (k + rm.cells) (n + rm.slots)) : WS p la e R s m args below meth c Q D cA B0 nL pc l (av.reverse ++ .ref b :: r) h k n :=
  run_ok (idx := idx) (As := (Value.ref b :: av).toArray) X.2.2.2.2.2.2 (fun H locs ls hH hls => va_runIN (fix_ok X) hM ⟨va_cnB av.length X.2.2.2.2.1 (WT_goodIn y bytes maxL none hL.1) rfl rfl rfl (E.2.1 _ hl rfl) (X.2.2.2.2.1 _ hL.2.1) ⟨hL.2.2.1.1, hL.2.2.1.2, hL.2.2.2⟩ hR, hn, X.2.2.2.2.1 _ hi⟩ (preS_of X E hH (.ref b :: av)) rfl rfl hls.1 rfl (lv_room hW) hd hf) kk
end CIN
section M98c
variable {la : Launch} {D : va_G} {cA : Nat → ClassId} {B0 pa : Nat}
end M98c
end U98cinit
section U98dinit0
/-! the constructors of answers and of the class itself (printed by wip/p40/genInit2.py) -/
theorem clX0_9 : Cond.classLink RX0 9 (cnm (aty 103)) ∈ WT := by rw [aty103]; exact WT_of (tbw_1 (List.mem_of_getElem? (i := 65) rfl)) rfl
theorem clX6_9 : Cond.classLink RX6 9 (cnm (aty 103)) ∈ WT := by rw [aty103]; exact WT_of (tbw_1 (List.mem_of_getElem? (i := 37) rfl)) rfl
theorem clX6_15 : Cond.classLink RX6 15 (cnm (aty 104)) ∈ WT := by rw [aty104]; exact WT_of (tbw_1 (List.mem_of_getElem? (i := 39) rfl)) rfl
theorem filR_at (as : List Nat) (q N : Nat) : (filR (as ++ [q]) N)[as.length]? = some (.ref q) := by
  unfold filR
  rw [List.map_append, List.append_assoc, List.getElem?_append_right (by simp)]
  simp
/-- an array that is being filled with terms, or with answers -/
def Fil (Γ0 : TY) (h0 : AH) (ex : Nat → Prop) (arr kd N : Nat) (TT : TY → Nat → Prop) (as : List Nat) (Γ : TY) (h : AH) : Prop :=
  Sub Γ0 Γ ∧ Tyg Γ h ∧ KG Γ ∧ (∀ t ∈ as, TT Γ t) ∧ h arr = some (kd, filR as N) ∧ Γ arr = none ∧ ∀ (a : Nat) (c : AC), ¬ ex a → a ≠ arr → Γ0 a = none → h0 a = some c → h a = some c ∧ Γ a = none
section FILL
variable {Γ0 Γ Γ' : TY} {h0 h h' : AH} {ex : Nat → Prop} {arr kd N : Nat} {TT : TY → Nat → Prop} {as : List Nat}
theorem Fil.grow (F : Fil Γ0 h0 ex arr kd N TT as Γ h) (hm : ∀ {Γ Γ' : TY} {t : Nat}, Sub Γ Γ' → TT Γ t → TT Γ' t) (S : Sub Γ Γ') (I : Tyg Γ' h') (K : KG Γ') (f : ∀ (a : Nat) (c : AC), Γ a = none → h a = some c → h' a = some c ∧ Γ' a = none) : Fil Γ0 h0 ex arr kd N TT as Γ' h' := by
  obtain ⟨f1, f2, f3, f4, f5, f6, f7⟩ := F
  exact ⟨f1.trans S, I, K, fun t ht => hm S (f4 t ht), (f _ _ f6 f5).1, (f _ _ f6 f5).2, fun a c g1 g2 g3 g4 => f a c (f7 a c g1 g2 g3 g4).2 (f7 a c g1 g2 g3 g4).1⟩
theorem Fil.put (F : Fil Γ0 h0 ex arr kd N TT as Γ h) {q : Nat} (hq : TT Γ q) (hl : as.length < N) : Fil Γ0 h0 ex arr kd N TT (as ++ [q]) Γ (hup h arr (kd, (filR as N).set as.length (.ref q))) := by
  obtain ⟨f1, f2, f3, f4, f5, f6, f7⟩ := F
  refine ⟨f1, f2.setc f6 _, f3, fun t ht => (List.mem_append.mp ht).elim (f4 t) (fun z => by rw [List.mem_singleton.mp z]; exact hq), by rw [hup_self, filR_set hl], f6, fun a c g1 g2 g3 g4 => ?_⟩
  rw [hup_ne _ _ g2]
  exact f7 a c g1 g2 g3 g4
end FILL
section M98d
variable {la : Launch} {D : va_G} {cA : Nat → ClassId} {B0 pa : Nat}
end M98d
end U98dinit0
section U98ftx1
/-! texts: rows of bytes, fields of StringBuilder and String, calls of inherited methods -/
def BF (bs : List Int32) : Prop := ∀ x ∈ bs, fits .byte (.int x) = true
theorem BF_get {bs : List Int32} (h : BF bs) : sb_Fit (fun j => bs.getD j 0) := by
  intro j
  show fits .byte (.int (bs.getD j 0)) = true
  rw [List.getD_eq_getElem?_getD]
  cases e : bs[j]? with
  | none => rfl
  | some x => exact h x (List.mem_of_getElem? e)
theorem BF_mk {n : Nat} {f : Nat → Int32} (h : sb_Fit f) : BF ((List.range n).map f) := by
  intro x hx
  obtain ⟨j, -, rfl⟩ := List.mem_map.mp hx
  exact h j
theorem BF_zero (n : Nat) : BF (List.replicate n 0) := fun x hx => by rw [(List.mem_replicate.mp hx).2]; rfl
theorem BF_set {bs : List Int32} (h : BF bs) (j : Nat) {x : Int32} (hx : fits .byte (.int x) = true) : BF (bs.set j x) := fun y hy => (List.mem_or_eq_of_mem_set hy).elim (h y) (fun e => by rw [e]; exact hx)
theorem bf_get {bs : List Int32} {j : Nat} (hj : j < bs.length) : vp_V (bs.map Value.int) j = .int (bs.getD j 0) := vp_V_get (by simp [List.getD_eq_getElem?_getD, hj])
theorem arr_cell (cI : ClassId) (bs : List Int32) : arrV cI (bs.map Value.int).length (vp_V (bs.map Value.int)) = vp_cell cI (bs.length, .inl (fun j => bs.getD j 0)) := by
  rw [List.length_map]
  rw [vp_cell_i]
  unfold arrV
  congr 2
  funext q
  exact bf_get q.isLt
theorem arr_cell2 (cI : ClassId) (n : Nat) (f : Nat → Int32) : arrV cI (((List.range n).map f).map Value.int).length (vp_V (((List.range n).map f).map Value.int)) = vp_cell cI (n, .inl f) := by
  rw [List.length_map, List.length_map, List.length_range]
  rw [vp_cell_i]
  unfold arrV
  congr 2
  funext q
  exact vp_V_get (by simp)
/-- a field that a class has from the class above it -/
def FLi (own : String) (idx ci kf : Nat) : Prop := ∃ (C : String) (T : u_T) (N : Nat) (ty : Nat → FieldType), vwCl[ci]? = some (C, T, N) ∧ (∀ w ∈ u_ws C T N, w ∈ WT) ∧ kf < N ∧ Cond.fieldLink own idx (T kf).1 (T kf).2.1 (T kf).2.2.1 ∈ WT ∧
  (∀ k, k < N → parseFieldDescriptor (T k).2.2.1 = some (ty k)) ∧ (∀ a, a < N → ∀ b, b < N → a ≠ b → (T a).2.1 ≠ (T b).2.1)
set_option maxRecDepth 100000 in
theorem cwJ4 : ∀ w ∈ u_ws RJ4 TJ4 4, w ∈ WT := fun w h => WT_of ((show ∀ w ∈ u_ws RJ4 TJ4 4, w ∈ lw_tbl by decide +kernel) w h) ((show ∀ w ∈ u_ws RJ4 TJ4 4, goodWord w = true by decide +kernel) w h)
set_option maxRecDepth 100000 in
theorem cwJ0 : ∀ w ∈ u_ws RJ0 TJ0 4, w ∈ WT := fun w h => WT_of ((show ∀ w ∈ u_ws RJ0 TJ0 4, w ∈ lw_tbl by decide +kernel) w h) ((show ∀ w ∈ u_ws RJ0 TJ0 4, goodWord w = true by decide +kernel) w h)
set_option maxRecDepth 100000 in
theorem flJ5_15 : FLi RJ5 15 1 0 := ⟨RJ4, TJ4, 4, tyJ4, rfl, cwJ4, by decide, WT_of (by decide +kernel) rfl, tyJ4_ok, nmJ4⟩
set_option maxRecDepth 100000 in
theorem flJ5_22 : FLi RJ5 22 1 1 := ⟨RJ4, TJ4, 4, tyJ4, rfl, cwJ4, by decide, WT_of (by decide +kernel) rfl, tyJ4_ok, nmJ4⟩
set_option maxRecDepth 100000 in
theorem flJ5_79 : FLi RJ5 79 1 3 := ⟨RJ4, TJ4, 4, tyJ4, rfl, cwJ4, by decide, WT_of (by decide +kernel) rfl, tyJ4_ok, nmJ4⟩
set_option maxRecDepth 100000 in
theorem flJ0_9 : FLi RJ0 9 0 0 := ⟨RJ0, TJ0, 4, tyJ0, rfl, cwJ0, by decide, WT_of (by decide +kernel) rfl, tyJ0_ok, nmJ0⟩
set_option maxRecDepth 100000 in
theorem flJ0_15 : FLi RJ0 15 0 1 := ⟨RJ0, TJ0, 4, tyJ0, rfl, cwJ0, by decide, WT_of (by decide +kernel) rfl, tyJ0_ok, nmJ0⟩
set_option maxRecDepth 100000 in
theorem flJ0_9' : FL RJ0 9 0 0 := ⟨RJ0, TJ0, 4, tyJ0, rfl, cwJ0, by decide, WT_of (by decide +kernel) rfl, rfl, tyJ0_ok, nmJ0⟩
set_option maxRecDepth 100000 in
theorem flJ0_15' : FL RJ0 15 0 1 := ⟨RJ0, TJ0, 4, tyJ0, rfl, cwJ0, by decide, WT_of (by decide +kernel) rfl, rfl, tyJ0_ok, nmJ0⟩
theorem ftJ4_0 : FT 1 0 (.array .byte) false := ⟨RJ4, TJ4, 4, rfl, by decide +kernel, rfl⟩
theorem ftJ4_1 : FT 1 1 .byte false := ⟨RJ4, TJ4, 4, rfl, by decide +kernel, rfl⟩
theorem ftJ4_3 : FT 1 3 .int false := ⟨RJ4, TJ4, 4, rfl, by decide +kernel, rfl⟩
theorem ftJ0_0 : FT 0 0 (.array .byte) true := ⟨RJ0, TJ0, 4, rfl, by decide +kernel, rfl⟩
theorem ftJ0_1 : FT 0 1 .byte true := ⟨RJ0, TJ0, 4, rfl, by decide +kernel, rfl⟩
set_option maxRecDepth 100000 in
theorem acByte : Cond.arrayClass .byte ∈ WT := WT_of (by decide +kernel) rfl
/-- a text: a constant, or one that was made -/
def StrC (D : va_G) (sa va n : Nat) : Prop := ∃ i, i < 5 ∧ sa = D.2 50 i ∧ va = D.2 51 i ∧ n = scL.getD i 0
def StrH (h : AH) (sa va n : Nat) : Prop := ∃ (x y : Value) (bs : List Int32), h sa = some (0, [.ref va, .int 0, x, y]) ∧ h va = some (102, bs.map Value.int) ∧ bs.length = n ∧ BF bs
def StrA (D : va_G) (h : AH) (sa n : Nat) : Prop := ∃ va, StrC D sa va n ∨ StrH h sa va n
/-- a text in the making, of n letters, its row v of m bytes -/
def SBp (h : AH) (b v n m : Nat) : Prop := ∃ (t : Value) (bs : List Int32), h b = some (1, [.ref v, .int 0, t, vI n]) ∧ h v = some (102, bs.map Value.int) ∧ bs.length = m ∧ BF bs ∧ n ≤ m ∧ m ≤ 1000
theorem scL_le : ∀ i, i < 5 → scL.getD i 0 ≤ 8 := by decide
section TX1
variable {p : Program} {la : Launch} {e : Env} {R : Room} {s : State} {m : MethodId} {args : Array Value} {below : List Frame} {meth : Method} {c : Code} {Q : State → Prop}
variable {D : va_G} {cA : Nat → ClassId} {B0 pa nL : Nat} {cc : ByteArray} {own : String} {pc k n : Nat} {l : List (Nat × Value)} {r : List Value} {h : AH}
theorem getfI_ok (X : CX p s m args c D cA B0 nL cc own) {idx ci kf a : Nat} {fs : List Value} {v : Value} (hF : FLi own idx ci kf) (hd : decode cc pc = .ok (.getfield idx, 3)) (ha : h a = some (ci, fs)) (hv : fs[kf]? = some v)
    (kk : WS p la e R s m args below meth c Q D cA B0 nL (pc + 3) l (v :: r) h k n) : WS p la e R s m args below meth c Q D cA B0 nL pc l (.ref a :: r) h k n := by
  obtain ⟨hx, hb, hml, hown, hts, hK, hB⟩ := X
  obtain ⟨C, T, N, ty, hc, hin, hk, hl, hty, hnm⟩ := hF
  intro H locs ls hH hls
  obtain ⟨r0, h1, h2, cell, q1, q2, q3, q4⟩ := (hH.1 a _ ha).2.1 (vwCl_lt hc)
  have hr : r0 = (C, T, N) := Option.some.inj (h1.symm.trans hc)
  subst hr
  obtain ⟨hS, hfc, kC, hkC, hkind⟩ := hK.1.1 ci _ hc
  obtain ⟨cf, kf0, fi, f, hi, hsl⟩ := hS kf hk
  refine W.getf hx hb hown (hts _ hl) hi (u_facts hfc hkC (u_lays hts hin hk) hi).1 q1 (by rw [q3]; exact fun h => by cases h) (v := v) ?_ rfl rfl hd (kk H locs ls hH hls)
  rw [hsl, q4 kf hk]
  simp [vp_V, hv]
theorem putfI_ok (X : CX p s m args c D cA B0 nL cc own) {idx ci kf a : Nat} {fs : List Value} {v : Value} {ty : FieldType} (hF : FLi own idx ci kf) (hT : FT ci kf ty false)
    (hn : narrow ty v = v) (hfit : fits ty v = true) (hd : decode cc pc = .ok (.putfield idx, 3)) (ha : h a = some (ci, fs)) (hl0 : kf < fs.length)
    (kk : WS p la e R s m args below meth c Q D cA B0 nL (pc + 3) l r (hup h a (ci, fs.set kf v)) k n) : WS p la e R s m args below meth c Q D cA B0 nL pc l (v :: .ref a :: r) h k n := by
  obtain ⟨hx, hb, hml, hown, hts, hK, hB⟩ := X
  obtain ⟨C, T, N, ty0, hc, hin, hk, hl, hty, hnm⟩ := hF
  obtain ⟨C', T', N', hc', hdt, hfn⟩ := hT
  cases hc.symm.trans hc'
  intro H locs ls hH hls
  obtain ⟨r0, h1, h2, cell, q1, q2, q3, q4⟩ := (hH.1 a _ ha).2.1 (vwCl_lt hc)
  have hr : r0 = (C, T, N) := Option.some.inj (h1.symm.trans hc)
  subst hr
  have hap := va_apart (own := own) hts hin ty0 hty hnm hK.1 hc
  obtain ⟨hS, hfc, kC, hkC, hkind⟩ := hK.1.1 ci _ hc
  obtain ⟨cf, kf0, fi, f, hi, hsl⟩ := hS kf hk
  have hlay := hts _ (hin _ (u_in_lay hk))
  have hst := (u_facts hfc hkC (u_lays hts hin hk) hi).1
  unfold u_lay at hlay
  rw [if_neg (by rw [hfn]; decide)] at hlay
  have h6 := u_store hfc hkC hkind hlay hi hdt hn hfit
  refine W.putK hx hb (f := f) ⟨hown, hts _ hl, ⟨_, _, _, hi⟩, hst⟩ (by rw [q2]; exact h6) q1 q3 (by rw [hsl]; exact k2_hasslot (q4 kf hk)) rfl rfl hd (fun H1 e1 e2 e3 => ?_)
  rw [hsl] at e1 ⊢
  exact kk H1 _ ls ⟨hH.1.put ha ⟨fun _ => ⟨_, hc, by simpa using h2, t_OB.to (V := updV (vp_V fs) kf v) ⟨_, e1, q2, q3, t_set q4 hap hk v⟩ (fun j _ => vp_updV_set hl0 v j)⟩, fun z => absurd (vwCl_lt hc) z⟩ e3, hH.2.put e2 e3 (hH.1 a _ ha).1⟩ hls
/-- COMPACT_STRINGS -/
theorem getsC_ok (X : CX p s m args c D cA B0 nL cc own) (E : EN D cA B0 pa s) {idx : Nat} (hl : Cond.fieldLink own idx "java/lang/String" "COMPACT_STRINGS" "Z" ∈ WT) (hd : decode cc pc = .ok (.getstatic idx, 3))
    (kk : WS p la e R s m args below meth c Q D cA B0 nL (pc + 3) l (.int 1 :: r) h k n) : WS p la e R s m args below meth c Q D cA B0 nL pc l r h k n := by
  intro H locs ls hH hls
  exact va_gets X.1 X.2.1 E.2.2.2.1.2.2.2.2.1 hH.2 X.2.2.2.1 (X.2.2.2.2.1 _ hl) (fun _ h => h) hd (kk H locs ls hH hls)
/-- a static that holds null or a reference -/
theorem getsF_ok (X : CX p s m args c D cA B0 nL cc own) (E : EN D cA B0 pa s) {idx : Nat} (hl : Cond.fieldLink own idx "jdk/internal/util/Preconditions" "SIOOBE_FORMATTER" "Ljava/util/function/BiFunction;" ∈ WT) (hd : decode cc pc = .ok (.getstatic idx, 3))
    (kk : ∀ v : Value, (v = .null ∨ ∃ t, v = .ref t) → WS p la e R s m args below meth c Q D cA B0 nL (pc + 3) l (v :: r) h k n) : WS p la e R s m args below meth c Q D cA B0 nL pc l r h k n := by
  intro H locs ls hH hls
  rcases E.2.2.2.1.2.2.2.2.2.2.2.2.2 with hz | ⟨t, hz⟩
  · exact va_gets X.1 X.2.1 hz hH.2 X.2.2.2.1 (X.2.2.2.2.1 _ hl) (fun _ h => h) hd (kk _ (Or.inl rfl) H locs ls hH hls)
  · exact va_gets X.1 X.2.1 hz hH.2 X.2.2.2.1 (X.2.2.2.2.1 _ hl) (fun _ h => h) hd (kk _ (Or.inr ⟨t, rfl⟩) H locs ls hH hls)
/-- a constant text -/
theorem ldcT_ok (X : CX p s m args c D cA B0 nL cc own) (E : EN D cA B0 pa s) (i : Nat) {idx : Nat} (hi : i < 5) (ho : own = scO i) (hx : idx = scK i) (hd : decode cc pc = .ok (.ldc idx, 2))
    (kk : WS p la e R s m args below meth c Q D cA B0 nL (pc + 2) l (.ref (D.2 50 i) :: r) h k n) : WS p la e R s m args below meth c Q D cA B0 nL pc l r h k n := by
  subst ho
  subst hx
  intro H locs ls hH hls
  exact va_ldcS X.1 X.2.1 X.2.2.2.1 (E.2.2.2.1.2.2.2.2.2.2.1 i hi) hd (kk H locs ls hH hls)
theorem strV_ok (X : CX p s m args c D cA B0 nL cc RJ0) (E : EN D cA B0 pa s) {sa va nn : Nat} (hs : StrC D sa va nn ∨ StrH h sa va nn) (hd : decode cc pc = .ok (.getfield 9, 3))
    (kk : WS p la e R s m args below meth c Q D cA B0 nL (pc + 3) l (.ref va :: r) h k n) : WS p la e R s m args below meth c Q D cA B0 nL pc l (.ref sa :: r) h k n := by
  rcases hs with ⟨i, hi, rfl, rfl, -⟩ | ⟨x, y, bs, h1, -⟩
  · intro H locs ls hH hls
    exact vk_getf X.1 X.2.1 (E.2.2.2.1.2.2.2.2.2.2.2.1.1 i hi).2.2.1 hH.2 X.2.2.2.1 (X.2.2.2.2.1 (Cond.fieldLink RJ0 9 "java/lang/String" "value" "[B") (by obtain ⟨C, T, N, ty, hc, -, -, h3, -⟩ := flJ0_9; cases hc; exact h3)) (fun _ h => h) hd (kk H locs ls hH hls)
  · exact getfI_ok X flJ0_9 hd h1 rfl kk
theorem strK_ok (X : CX p s m args c D cA B0 nL cc RJ0) (E : EN D cA B0 pa s) {sa va nn : Nat} (hs : StrC D sa va nn ∨ StrH h sa va nn) (hd : decode cc pc = .ok (.getfield 15, 3))
    (kk : WS p la e R s m args below meth c Q D cA B0 nL (pc + 3) l (.int 0 :: r) h k n) : WS p la e R s m args below meth c Q D cA B0 nL pc l (.ref sa :: r) h k n := by
  rcases hs with ⟨i, hi, rfl, rfl, -⟩ | ⟨x, y, bs, h1, -⟩
  · intro H locs ls hH hls
    exact vk_getf X.1 X.2.1 (E.2.2.2.1.2.2.2.2.2.2.2.1.1 i hi).2.1 hH.2 X.2.2.2.1 (X.2.2.2.2.1 (Cond.fieldLink RJ0 15 "java/lang/String" "coder" "B") (by obtain ⟨C, T, N, ty, hc, -, -, h3, -⟩ := flJ0_15; cases hc; exact h3)) (fun _ h => h) hd (kk H locs ls hH hls)
  · exact getfI_ok X flJ0_15 hd h1 rfl kk
theorem strL_ok (X : CX p s m args c D cA B0 nL cc own) (E : EN D cA B0 pa s) {sa va nn : Nat} (hs : StrC D sa va nn ∨ StrH h sa va nn) (hd : decode cc pc = .ok (.arraylength, 1))
    (kk : WS p la e R s m args below meth c Q D cA B0 nL (pc + 1) l (vI nn :: r) h k n) : WS p la e R s m args below meth c Q D cA B0 nL pc l (.ref va :: r) h k n := by
  rcases hs with ⟨i, hi, rfl, rfl, rfl⟩ | ⟨x, y, bs, -, h2, h3, -⟩
  · intro H locs ls hH hls
    exact va_tlen X.1 X.2.1 (E.2.2.2.1.2.2.2.2.2.2.2.1.1 i hi).2.2.2 hH.2 rfl hd (kk H locs ls hH hls)
  · refine alen_ok X (by decide) hd h2 ?_
    rw [List.length_map, h3]
    exact kk
/-- the receiver of a call on a text -/
theorem str_cls (X : CX p s m args c D cA B0 nL cc own) (E : EN D cA B0 pa s) {sa va nn : Nat} (hs : StrC D sa va nn ∨ StrH h sa va nn) {H : Heap} {locs : List Loc} (hH : HS D cA B0 s h H locs) : ∃ cell : Cell, H[sa]? = some cell ∧ cell.vm.isStatics = false ∧ s.vm.findClass RJ0 = some cell.cls := by
  rcases hs with ⟨i, hi, rfl, rfl, -⟩ | ⟨x, y, bs, h1, -⟩
  · exact vk_recv E.2.2.2.1.2.2.2.2.2.2.2.1 hi hH.2
  · obtain ⟨r1, g0, -, cell, g1, g2, g3, -⟩ := (hH.1 sa _ h1).2.1 (by show (0 : Nat) < 100; decide)
    exact ⟨cell, g1, by rw [g3]; rfl, by rw [g2]; exact (X.2.2.2.2.2.1.1.1 0 _ rfl).2.1⟩
theorem callT_ok (X : CX p s m args c D cA B0 nL cc own) (E : EN D cA B0 pa s) {y : MethodName} {bytes : ByteArray} {maxL idx sa va nn : Nat} {ret : Option FieldType} {rm : Room} {av : List Value} {post : Option Value → AH → Prop} (hs : StrC D sa va nn ∨ StrH h sa va nn)
    (hM : CT la D cA B0 pa y bytes maxL ret rm (.ref sa :: av) h post) (hL : LK y bytes maxL av.length ret) (hl : Cond.methodLink own idx y ∈ WT) (hi : Cond.instanceMethod y ∈ WT) (hse : Cond.selects RJ0 y y ∈ WT) (hR : rm.frames + 1 ≤ R.frames ∧ 8 + (maxL + 11) + rm.locals ≤ R.locals) (hf : k + rm.cells ≤ R.cells ∧ n + rm.slots ≤ R.slots)
    (hW : (r.map fun v => v.category).sum ≤ 8) (hd : decode cc pc = .ok (.invokevirtual idx, 3))
    (kk : ∀ (v : Option Value) (h' : AH), post v h' → WS p la e R s m args below meth c Q D cA B0 nL (pc + 3) l (v.toList ++ r) h' (k + rm.cells) (n + rm.slots)) : WS p la e R s m args below meth c Q D cA B0 nL pc l (av.reverse ++ .ref sa :: r) h k n :=
  run_ok (idx := idx) (As := (Value.ref sa :: av).toArray) X.2.2.2.2.2.2 (fun H locs ls hH hls => va_runV (C := RJ0) (fix_ok X) hM ⟨callB_ok X hL hl hR, X.2.2.2.2.1 _ hi, X.2.2.2.2.1 _ hse⟩ ⟨PC_blind, str_cls X E hs hH, (preS_of X E hH (.ref sa :: av)).2⟩ rfl rfl hls.1 rfl (lv_room hW) hd hf) kk
/-- a method that the class has from the class above it -/
theorem callU_ok (X : CX p s m args c D cA B0 nL cc own) (E : EN D cA B0 pa s) {x y : MethodName} {C : String} {bytes : ByteArray} {maxL idx ci b : Nat} {ret : Option FieldType} {rm : Room} {av fs : List Value} {T : u_T} {N : Nat} {post : Option Value → AH → Prop}
    (hM : CT la D cA B0 pa y bytes maxL ret rm (.ref b :: av) h post) (hL : LK y bytes maxL av.length ret) (hyx : x = y) (hl : Cond.methodLink own idx y ∈ WT) (hsm : Cond.sameMethod y.cls y.cls y.name y.desc ∈ WT) (hse : Cond.selects C y y ∈ WT) (hi : Cond.instanceMethod y ∈ WT) (hR : rm.frames + 1 ≤ R.frames ∧ 8 + (maxL + 11) + rm.locals ≤ R.locals) (hf : k + rm.cells ≤ R.cells ∧ n + rm.slots ≤ R.slots)
    (hc : vwCl[ci]? = some (C, T, N)) (hb : h b = some (ci, fs))
    (hW : (r.map fun v => v.category).sum ≤ 8) (hd : decode cc pc = .ok (.invokevirtual idx, 3))
    (kk : ∀ (v : Option Value) (h' : AH), post v h' → WS p la e R s m args below meth c Q D cA B0 nL (pc + 3) l (v.toList ++ r) h' (k + rm.cells) (n + rm.slots)) : WS p la e R s m args below meth c Q D cA B0 nL pc l (av.reverse ++ .ref b :: r) h k n := by
  have g : ∀ w, w ∈ WT → w ∈ WT ∧ ((w.onTables && w.keeps) = true ∨ ∃ ty, w = .arrayClass ty) := fun w h => ⟨h, good_of_word (WT_good _ h)⟩
  have hT : GoodIn WT (va_wsU own idx C y.cls y y (Cond.code y bytes maxL ret :: WT)) := by
    intro w hw
    simp only [va_wsU, List.mem_append, List.mem_cons, List.not_mem_nil, or_false] at hw
    rcases hw with (hw | hw | hw | hw | hw) | hw | hw
    · subst hw; exact g _ hl
    · subst hw; exact g _ hsm
    · subst hw; exact g _ hse
    · subst hw; exact g _ hi
    · subst hw; exact g _ hL.2.1
    · subst hw; exact g _ hL.1
    · exact g _ hw
  refine run_ok (idx := idx) (As := (Value.ref b :: av).toArray) X.2.2.2.2.2.2 (fun H locs ls hH hls => va_runU (C := C) (owner := y.cls) (x := y) (fix_ok X) hM (va_cwU av.length X.2.2.2.2.1 hT rfl rfl rfl rfl ⟨hL.2.2.1.1, hL.2.2.1.2, hL.2.2.2⟩ hR) ⟨PC_blind, ?_, (preS_of X E hH (.ref b :: av)).2⟩ rfl rfl hls.1 rfl (lv_room hW) hd hf) kk
  obtain ⟨r1, g0, -, cell, g1, g2, g3, -⟩ := (hH.1 b _ hb).2.1 (vwCl_lt hc)
  exact ⟨cell, g1, by rw [g3]; rfl, by rw [g2]; exact (X.2.2.2.2.2.1.1.1 ci _ hc).2.1⟩
/-- a method of the class above, by super -/
theorem callSU_ok (X : CX p s m args c D cA B0 nL cc own) (E : EN D cA B0 pa s) {y : MethodName} {C : String} {bytes : ByteArray} {maxL idx ci b : Nat} {ret : Option FieldType} {rm : Room} {av fs : List Value} {T : u_T} {N : Nat} {post : Option Value → AH → Prop}
    (hM : CT la D cA B0 pa y bytes maxL ret rm (.ref b :: av) h post) (hL : LK y bytes maxL av.length ret) (hl : Cond.methodLink own idx y ∈ WT) (hsm : Cond.sameMethod y.cls y.cls y.name y.desc ∈ WT) (hsu : Cond.superclass own y.cls ∈ WT) (hi : Cond.instanceMethod y ∈ WT) (hn : y.name ≠ "<init>") (hR : rm.frames + 1 ≤ R.frames ∧ 8 + (maxL + 11) + rm.locals ≤ R.locals) (hf : k + rm.cells ≤ R.cells ∧ n + rm.slots ≤ R.slots)
    (hc : vwCl[ci]? = some (C, T, N)) (hb : h b = some (ci, fs))
    (hW : (r.map fun v => v.category).sum ≤ 8) (hd : decode cc pc = .ok (.invokespecial idx, 3))
    (kk : ∀ (v : Option Value) (h' : AH), post v h' → WS p la e R s m args below meth c Q D cA B0 nL (pc + 3) l (v.toList ++ r) h' (k + rm.cells) (n + rm.slots)) : WS p la e R s m args below meth c Q D cA B0 nL pc l (av.reverse ++ .ref b :: r) h k n := by
  have g : ∀ w, w ∈ WT → w ∈ WT ∧ ((w.onTables && w.keeps) = true ∨ ∃ ty, w = .arrayClass ty) := fun w h => ⟨h, good_of_word (WT_good _ h)⟩
  have hT : GoodIn WT (va_wsSU own idx y (Cond.code y bytes maxL ret :: WT)) := by
    intro w hw
    simp only [va_wsSU, List.mem_append, List.mem_cons, List.not_mem_nil, or_false] at hw
    rcases hw with (hw | hw | hw | hw | hw) | hw | hw
    · subst hw; exact g _ hl
    · subst hw; exact g _ hsm
    · subst hw; exact g _ hsu
    · subst hw; exact g _ hi
    · subst hw; exact g _ hL.2.1
    · subst hw; exact g _ hL.1
    · exact g _ hw
  refine run_ok (idx := idx) (As := (Value.ref b :: av).toArray) X.2.2.2.2.2.2 (fun H locs ls hH hls => va_runSU (C := C) (X.2.2.2.2.2.1.1.1 ci _ hc).2 (fix_ok X) hM (va_cwSU av.length X.2.2.2.2.1 hT rfl rfl rfl ⟨hn, hL.2.2.2⟩ hR) ⟨PC_blind, ?_, (preS_of X E hH (.ref b :: av)).2⟩ rfl rfl hls.1 rfl (lv_room hW) hd hf) kk
  obtain ⟨r1, g0, -, cell, g1, g2, g3, -⟩ := (hH.1 b _ hb).2.1 (vwCl_lt hc)
  exact ⟨cell, g1, by rw [g3]; rfl, by rw [g2]; exact (X.2.2.2.2.2.1.1.1 ci _ hc).2.1⟩
/-- a new row of bytes -/
theorem newab_ok (X : CX p s m args c D cA B0 nL cc own) {j : Nat} (hd : decode cc pc = .ok (.newarray .byte, 2)) (hj2 : j ≤ 4000) (hr1 : k + 1 ≤ R.cells) (hr2 : n + j ≤ R.slots)
    (kk : ∀ q : Nat, h q = none → B0 ≤ q → WS p la e R s m args below meth c Q D cA B0 nL (pc + 2) l (.ref q :: r) (hup h q (102, (List.replicate j (0 : Int32)).map Value.int)) (k + 1) (n + j)) : WS p la e R s m args below meth c Q D cA B0 nL pc l (vI j :: r) h k n := by
  obtain ⟨hx, hb, hml, hown, hts, hK, hB⟩ := X
  intro H locs ls hH hls
  have hBH : B0 ≤ H.size := Nat.le_trans hB hH.2.1
  have e1 : (nI j).toNatClampNeg = j := nI_clamp (by omega)
  refine va_newaK (atype := .byte) (n := nI j) hx hb (hts _ acByte) rfl hd rfl (nI_pos (by omega)) rfl (by rw [e1]; show j * 1 ≤ 536870912; omega) hr1 (by rw [e1]; exact hr2) rfl fun H1 cA' e2 z1 o1 hAr hNm => ?_
  rw [e1]
  rw [e1] at e2
  refine kk H.size (hH.1.fresh) hBH H1 _ ls ⟨hH.1.push hBH ⟨fun z => absurd z (show ¬ 102 < 100 by omega), fun _ => ⟨(show 102 < 108 by omega), ?_⟩⟩ o1, Nat.le_trans hH.2.1 (by omega), fun x h1 h2 => (o1 x (Nat.lt_of_lt_of_le h1 hH.2.1)).trans (hH.2.2.1 x h1 h2), hH.2.2.2⟩ hls
  have hcA : cA' = cA 102 := by
    obtain ⟨_, _, -, -, k3, -⟩ := hK.2 102 (by decide) (by decide)
    exact Option.some.inj (hNm.symm.trans k3)
  rw [e2, hcA]
  show some (arrV (cA 102) j fun _ => Value.int 0) = some (arrV (cA 102) ((List.replicate j (0 : Int32)).map Value.int).length (vp_V ((List.replicate j (0 : Int32)).map Value.int)))
  rw [List.length_map, List.length_replicate]
  congr 1
  unfold arrV
  congr 2
  funext q
  rw [vp_V_get (v := .int 0)]
  simp
theorem bast_ok (X : CX p s m args c D cA B0 nL cc own) {a j : Nat} {bs : List Int32} {x : Int32} (hd : decode cc pc = .ok (.bastore, 1)) (ha : h a = some (102, bs.map Value.int)) (hj : j < bs.length) (hB' : BF bs) (hj2 : j < 2 ^ 31)
    (kk : ∀ bs' : List Int32, bs'.length = bs.length → BF bs' → WS p la e R s m args below meth c Q D cA B0 nL (pc + 1) l r (hup h a (102, bs'.map Value.int)) k n) : WS p la e R s m args below meth c Q D cA B0 nL pc l (.int x :: vI j :: .ref a :: r) h k n := by
  obtain ⟨hx, hb, hml, hown, hts, hK, hB⟩ := X
  intro H locs ls hH hls
  have hnl : ¬ 102 < 100 := by omega
  obtain ⟨hk7, hc⟩ := (hH.1 a _ ha).2.2 hnl
  have e1 : (nI j).toNatClampNeg = j := nI_clamp hj2
  have hlt : j < (bs.map Value.int).length := by rw [List.length_map]; exact hj
  have hin : ¬ ((nI j : Int32) < 0 ∨ (arrV (cA 102) (bs.map Value.int).length (vp_V (bs.map Value.int))).slots.size ≤ (nI j).toNatClampNeg) := by
    rw [arrV_size, e1]; rintro (q | q)
    · exact nI_pos hj2 q
    · omega
  obtain ⟨y, hy⟩ : ∃ y : Int32, narrow .byte (.int x) = .int y := ⟨_, rfl⟩
  have hfy : fits .byte (.int y) = true := by rw [← hy]; exact pk_fb x
  refine W.bast hx hb hc (hK.arr (k := 102) (by omega) (by omega) _ _) (fun q => by cases q) hin rfl rfl hd (fun H1 e2 e3 e4 => ?_)
  refine kk (bs.set j y) (by rw [List.length_set]) (BF_set hB' j hfy) H1 _ ls ⟨hH.1.put ha ⟨fun z => absurd z hnl, fun _ => ⟨hk7, ?_⟩⟩ e4, hH.2.put e3 e4 (hH.1 a _ ha).1⟩ hls
  rw [e2, e1, hy, arrV_store, setV hlt, List.map_set]
end TX1
end U98ftx1
section U98gtx2
/-! texts: copies of rows, clones; weak contracts of the builder and of strings (printed by wip/p40/genTx.py) -/
set_option maxRecDepth 100000 in
theorem acpN : Cond.native arraycopyName ∈ WT := WT_of (by decide +kernel) rfl
set_option maxRecDepth 100000 in
theorem acpS : Cond.static arraycopyName ∈ WT := WT_of (by decide +kernel) rfl
set_option maxRecDepth 100000 in
theorem acpI : Cond.initialized "java/lang/System" ∈ WT := WT_of (tbw_1 (List.mem_of_getElem? (i := 28) rfl)) rfl
def yClone : MethodName := ⟨"java/lang/Object", "clone", "()Ljava/lang/Object;"⟩
def yCloneB : MethodName := ⟨"[B", "clone", "()Ljava/lang/Object;"⟩
set_option maxRecDepth 100000 in
theorem clnL : Cond.methodLink RJ7 310 yCloneB ∈ WT := WT_of (tbw_5 (List.mem_of_getElem? (i := 10) rfl)) rfl
set_option maxRecDepth 100000 in
theorem clnS : Cond.sameMethod "[B" "java/lang/Object" "clone" "()Ljava/lang/Object;" ∈ WT := WT_of (tbw_5 (List.mem_of_getElem? (i := 11) rfl)) rfl
set_option maxRecDepth 100000 in
theorem clnN : Cond.native yClone ∈ WT := WT_of (tbw_5 (List.mem_of_getElem? (i := 12) rfl)) rfl
set_option maxRecDepth 100000 in
theorem clnI : Cond.instanceMethod yClone ∈ WT := WT_of (tbw_5 (List.mem_of_getElem? (i := 13) rfl)) rfl
set_option maxRecDepth 100000 in
theorem clnV : Cond.selects "[B" yCloneB yClone ∈ WT := WT_of (tbw_5 (List.mem_of_getElem? (i := 14) rfl)) rfl
set_option maxRecDepth 100000 in
theorem cstB : Cond.classLink RJ7 311 "[B" ∈ WT := WT_of (tbw_5 (List.mem_of_getElem? (i := 16) rfl)) rfl
set_option maxRecDepth 100000 in
theorem acpJ7 : Cond.methodLink RJ7 150 arraycopyName ∈ WT := WT_of (tbw_5 (List.mem_of_getElem? (i := 18) rfl)) rfl
set_option maxRecDepth 100000 in
theorem acpJ0 : Cond.methodLink RJ0 212 arraycopyName ∈ WT := WT_of (tbw_5 (List.mem_of_getElem? (i := 157) rfl)) rfl
set_option maxRecDepth 100000 in
theorem glJ5_18 : Cond.fieldLink RJ5 18 "java/lang/String" "COMPACT_STRINGS" "Z" ∈ WT := WT_of (tbw_4 (List.mem_of_getElem? (i := 150) rfl)) rfl
set_option maxRecDepth 100000 in
theorem glJ0_38 : Cond.fieldLink RJ0 38 "java/lang/String" "COMPACT_STRINGS" "Z" ∈ WT := WT_of (tbw_4 (List.mem_of_getElem? (i := 184) rfl)) rfl
set_option maxRecDepth 100000 in
theorem glJ0_1053 : Cond.fieldLink RJ0 1053 "jdk/internal/util/Preconditions" "SIOOBE_FORMATTER" "Ljava/util/function/BiFunction;" ∈ WT := WT_of (tbw_4 (List.mem_of_getElem? (i := 199) rfl)) rfl
set_option maxRecDepth 100000 in
theorem ml5_objB : Cond.methodLink RJ5 3 Lib.objectInit ∈ WT := WT_of (tbw_4 (List.mem_of_getElem? (i := 149) rfl)) rfl
set_option maxRecDepth 100000 in
theorem ml0_objB : Cond.methodLink RJ0 1 Lib.objectInit ∈ WT := WT_of (tbw_5 (List.mem_of_getElem? (i := 67) rfl)) rfl
set_option maxRecDepth 100000 in
theorem csJ8_200 : Cond.constant RJ8 200 2147483639 ∈ WT := WT_of (tbw_5 (List.mem_of_getElem? (i := 2) rfl)) rfl
set_option maxRecDepth 100000 in
theorem csJ5_39 : Cond.constant RJ5 39 2147483647 ∈ WT := WT_of (tbw_5 (List.mem_of_getElem? (i := 6) rfl)) rfl
set_option maxRecDepth 100000 in
theorem spJ4 : Cond.superclass RJ4 RJ5 ∈ WT := WT_of (tbw_4 (List.mem_of_getElem? (i := 171) rfl)) rfl
set_option maxRecDepth 100000 in
theorem smJ5_app : Cond.sameMethod RJ5 RJ5 yJ5_append_3fe6f.name yJ5_append_3fe6f.desc ∈ WT := WT_of (tbw_8 (List.mem_of_getElem? (i := 49) rfl)) rfl
set_option maxRecDepth 100000 in
theorem smJ5_apps : Cond.sameMethod RJ5 RJ5 yJ5_append_cf1ce.name yJ5_append_cf1ce.desc ∈ WT := WT_of (tbw_8 (List.mem_of_getElem? (i := 54) rfl)) rfl
set_option maxRecDepth 100000 in
theorem smJ5_ens : Cond.sameMethod RJ5 RJ5 yJ5_ensureCapacityInternal_d00df.name yJ5_ensureCapacityInternal_d00df.desc ∈ WT := WT_of (tbw_8 (List.mem_of_getElem? (i := 50) rfl)) rfl
set_option maxRecDepth 100000 in
theorem smJ5_ncap : Cond.sameMethod RJ5 RJ5 yJ5_newCapacity_0f7a4.name yJ5_newCapacity_0f7a4.desc ∈ WT := WT_of (tbw_8 (List.mem_of_getElem? (i := 51) rfl)) rfl
set_option maxRecDepth 100000 in
theorem smJ5_put : Cond.sameMethod RJ5 RJ5 yJ5_putStringAt_47b60.name yJ5_putStringAt_47b60.desc ∈ WT := WT_of (tbw_8 (List.mem_of_getElem? (i := 56) rfl)) rfl
set_option maxRecDepth 100000 in
theorem smJ5_inf : Cond.sameMethod RJ5 RJ5 yJ5_inflateIfNeededFor_a7421.name yJ5_inflateIfNeededFor_a7421.desc ∈ WT := WT_of (tbw_8 (List.mem_of_getElem? (i := 57) rfl)) rfl
set_option maxRecDepth 100000 in
theorem smJ5_lat : Cond.sameMethod RJ5 RJ5 yJ5_isLatin1_aae02.name yJ5_isLatin1_aae02.desc ∈ WT := WT_of (tbw_5 (List.mem_of_getElem? (i := 23) rfl)) rfl
set_option maxRecDepth 100000 in
theorem smJ5_val : Cond.sameMethod RJ5 RJ5 yJ5_getValue_6d5f1.name yJ5_getValue_6d5f1.desc ∈ WT := WT_of (tbw_5 (List.mem_of_getElem? (i := 70) rfl)) rfl
set_option maxRecDepth 100000 in
theorem smJ5_len : Cond.sameMethod RJ5 RJ5 yJ5_length_8abf5.name yJ5_length_8abf5.desc ∈ WT := WT_of (tbw_5 (List.mem_of_getElem? (i := 75) rfl)) rfl
set_option maxRecDepth 100000 in
theorem slJ5_lat : Cond.selects RJ4 yJ5_isLatin1_aae02 yJ5_isLatin1_aae02 ∈ WT := WT_of (tbw_5 (List.mem_of_getElem? (i := 24) rfl)) rfl
set_option maxRecDepth 100000 in
theorem slJ5_val : Cond.selects RJ4 yJ5_getValue_6d5f1 yJ5_getValue_6d5f1 ∈ WT := WT_of (tbw_5 (List.mem_of_getElem? (i := 71) rfl)) rfl
set_option maxRecDepth 100000 in
theorem slJ5_len : Cond.selects RJ4 yJ5_length_8abf5 yJ4_length_8abf5 ∈ WT := WT_of (tbw_5 (List.mem_of_getElem? (i := 76) rfl)) rfl
theorem slJ5_ens : Cond.selects RJ4 yJ5_ensureCapacityInternal_d00df yJ5_ensureCapacityInternal_d00df ∈ WT := List.mem_append_right _ (by unfold selT; simp)
theorem slJ5_ncap : Cond.selects RJ4 yJ5_newCapacity_0f7a4 yJ5_newCapacity_0f7a4 ∈ WT := List.mem_append_right _ (by unfold selT; simp)
theorem slJ5_put : Cond.selects RJ4 yJ5_putStringAt_47b60 yJ5_putStringAt_47b60 ∈ WT := List.mem_append_right _ (by unfold selT; simp)
theorem slJ5_inf : Cond.selects RJ4 yJ5_inflateIfNeededFor_a7421 yJ5_inflateIfNeededFor_a7421 ∈ WT := List.mem_append_right _ (by unfold selT; simp)
theorem sh0 (x : Int32) : x >>> ((0 : Int32) &&& 31) = x := by rw [show ((0 : Int32) &&& 31) = 0 by decide]; simp
theorem sl0 (x : Int32) : x <<< ((0 : Int32) &&& 31) = x := by rw [show ((0 : Int32) &&& 31) = 0 by decide]; simp
theorem i255 : (Int16.ofInt 255).toInt32 = nI 255 := by decide +kernel
/-- every cell stays, but the builder and its row -/
def SBG (B0 : Nat) (h h' : AH) (b v : Nat) : Prop := ∀ (a : Nat) (c : AC), a ≠ b → a ≠ v → h a = some c → h' a = some c
def NewB (B0 : Nat) (h : AH) (N : Nat) (r : Option Value) (h' : AH) : Prop := ∃ (q : Nat) (bs : List Int32), r = some (.ref q) ∧ h q = none ∧ B0 ≤ q ∧ h' q = some (102, bs.map Value.int) ∧ (∀ a : Nat, a ≠ q → h' a = h a) ∧ bs.length = N ∧ BF bs
/-- a builder after a step: the row v' is the old one or a new one; every other cell stays -/
def SBQ (B0 : Nat) (h : AH) (b v n m : Nat) (h' : AH) : Prop := ∃ v', SBp h' b v' n m ∧ (v' = v ∨ (h v' = none ∧ B0 ≤ v')) ∧ SBG B0 h h' b v
theorem SBp.ne {h : AH} {b v n m : Nat} (B : SBp h b v n m) : b ≠ v := by
  obtain ⟨t, bs, h1, h2, -⟩ := B
  intro z
  rw [← z, h1] at h2
  cases h2
theorem SBp.tov {h : AH} {b v n m : Nat} (B : SBp h b v n m) : h v ≠ none := by
  obtain ⟨t, bs, h1, h2, -⟩ := B
  rw [h2]
  exact fun z => by cases z
theorem SBG.trans {B0 : Nat} {h1 h2 h3 : AH} {b v v2 : Nat} (x : SBG B0 h1 h2 b v) (hv : v2 = v ∨ h1 v2 = none) (y : SBG B0 h2 h3 b v2) : SBG B0 h1 h3 b v := by
  intro a c g1 g2 g3
  refine y a c g1 ?_ (x a c g1 g2 g3)
  rcases hv with rfl | hv
  · exact g2
  · exact fun z => by rw [z, hv] at g3; cases g3
section TX2
variable {p : Program} {la : Launch} {e : Env} {R : Room} {s : State} {m : MethodId} {args : Array Value} {below : List Frame} {meth : Method} {c : Code} {Q : State → Prop}
variable {D : va_G} {cA : Nat → ClassId} {B0 pa nL : Nat} {cc : ByteArray} {own : String} {pc k n : Nat} {l : List (Nat × Value)} {r : List Value} {h : AH}
theorem nn32 (z : Int32) (hz : ¬ z < 0) : z.toInt = (z.toNatClampNeg : Int) := by
  have hz0 : (0 : Int) ≤ z.toInt := by
    have := Int32.not_lt.mp hz
    simpa using Int32.le_iff_toInt_le.mp this
  show z.toInt = ((z.toInt.toNat : Nat) : Int)
  omega
theorem row_at {kd : Nat} (X : CX p s m args c D cA B0 nL cc own) {H : Heap} {locs : List Loc} (hH : HS D cA B0 s h H locs) {a : Nat} {bs : List Int32} (ha : h a = some (102, bs.map Value.int)) (_ : kd = 102) : H[a]? = some (vp_cell (cA 102) (bs.length, .inl (fun j => bs.getD j 0))) := by
  obtain ⟨-, hc⟩ := (hH.1 a _ ha).2.2 (show ¬ 102 < 100 by omega)
  rw [hc]
  exact congrArg some (arr_cell (cA 102) bs)
/-- the machine's copy: from a cell of the heap that holds n0 bytes into a row -/
theorem acopyG (X : CX p s m args c D cA B0 nL cc own) {idx sa da : Nat} {gs : List Int32} {n0 sp dp z : Nat} {f : Nat → Int32} (hl : Cond.methodLink own idx arraycopyName ∈ WT)
    (hs : ∀ (H : Heap) (locs : List Loc), HS D cA B0 s h H locs → ∃ scr : Cell, H[sa]? = some scr ∧ s.isArrayOf scr .byte ∧ scr.vm ≠ .unknown ∧ n0 ≤ scr.slots.size ∧ ∀ j : Nat, j < n0 → scr.slots[j]? = some (.int (f j)))
    (hda : h da = some (102, gs.map Value.int)) (hf : sb_Fit f) (h4 : sp + z ≤ n0) (h5 : dp + z ≤ gs.length) (hb1 : n0 < 2 ^ 20) (hb2 : gs.length < 2 ^ 20)
    (hfr : 1 ≤ R.frames) (hlo : (r.map fun v => v.category).sum + (nativeFrameWords "java/lang/System" "arraycopy" 5 + 11) ≤ R.locals) (hd : decode cc pc = .ok (.invokestatic idx, 3))
    (kk : ∀ gs' : List Int32, gs'.length = gs.length → (BF gs → BF gs') → WS p la e R s m args below meth c Q D cA B0 nL (pc + 3) l r (hup h da (102, gs'.map Value.int)) k n) : WS p la e R s m args below meth c Q D cA B0 nL pc l (vI z :: vI dp :: .ref da :: vI sp :: .ref sa :: r) h k n := by
  have hX := X
  obtain ⟨hx, hb, hml, hown, hts, hK, hB⟩ := X
  intro H locs ls hH hls
  intro T hT XX
  obtain ⟨scr, hc0, hs2, hs3, hs4, hs5⟩ := hs H locs hH
  have hc1 := row_at (kd := 102) hX hH hda rfl
  obtain ⟨hs6, k0, hk0, cm0, hkk0⟩ := hs2
  obtain ⟨-, k1, hk1, cm1, hkk1⟩ := (hK.arr (k := 102) (by omega) (by omega)) gs.length (fun j => .int (gs.getD j 0))
  have es : (nI sp).toNatClampNeg = sp := nI_clamp (by omega)
  have ed : (nI dp).toNatClampNeg = dp := nI_clamp (by omega)
  have ez : (nI z).toNatClampNeg = z := nI_clamp (by omega)
  have ps : ¬ nI sp < 0 := nI_pos (by omega)
  have pd : ¬ nI dp < 0 := nI_pos (by omega)
  have pz : ¬ nI z < 0 := nI_pos (by omega)
  obtain ⟨vm', X', step⟩ := XX.arraycopy hx hown (hts _ hl) (hts _ acpN) (hts _ acpS) (hts _ acpI) (src := sa) (dst := da) (cs := scr) (cd := vp_cell (cA 102) (gs.length, .inl (fun j => gs.getD j 0))) (srcPos := nI sp) (destPos := nI dp) (n := nI z) (by rw [hT]; exact hc0) (by rw [hT]; exact hc1)
    hs6 (fun _ h => by cases h) hs3 (fun h => by cases h) hk0 hk1 hkk0 hkk1 (by rw [show aty 102 = FieldType.byte from rfl]; simp [refKind]) ps pd pz
    (by rw [nn32 _ ps, nn32 _ pz, es, ez]; omega)
    (by rw [nn32 _ pd, nn32 _ pz, ed, ez]; show ¬ _ > ((arrV (cA 102) gs.length (fun j => .int (gs.getD j 0))).slots.size : Int); rw [arrV_size]; omega)
    (fun vm₁ _ i hi => by
      rw [ez] at hi
      have e : scr.slots.getD ((nI sp).toNatClampNeg + i) .null = .int (f ((nI sp).toNatClampNeg + i)) := by
        rw [Array.getD_eq_getD_getElem?, hs5 _ (by omega)]
        rfl
      refine ⟨?_, ?_⟩
      · rw [e]
        exact hf _
      · rw [e]
        exact trivial)
    (g := F0 m pc ls (vI z :: vI dp :: .ref da :: vI sp :: .ref sa :: r)) rfl (by rw [hml.trans hls.1.symm]) (rest := r) rfl (by rw [hb]; exact hd) hfr (by show 2 * 0 + _ + _ ≤ _; omega)
  have e1 : copied scr (vp_cell (cA 102) (gs.length, .inl (fun j => gs.getD j 0))) (nI sp) (nI dp) (nI z) = vp_cell (cA 102) (gs.length, .inl (va_cpy f (fun j => gs.getD j 0) (nI sp).toNatClampNeg (nI dp).toNatClampNeg (nI z).toNatClampNeg)) := va_copiedX (fun z => .int z) scr (cA 102) f (fun j => gs.getD j 0) hs5 (by rw [es, ez]; exact h4)
  rw [es, ed, ez] at e1
  generalize hgn : va_cpy f (fun j => gs.getD j 0) sp dp z = fn at e1
  rw [e1] at X' step
  have hlt : da < H.size := (Array.getElem?_eq_some_iff.mp hc1).1
  have hheap : ((T.setVm vm').setCell da (vp_cell (cA 102) (gs.length, .inl fn))).heap = H.setIfInBounds da (vp_cell (cA 102) (gs.length, .inl fn)) := by rw [← hT]; rfl
  have oq : ∀ q : Nat, q ≠ da → (H.setIfInBounds da (vp_cell (cA 102) (gs.length, .inl fn)))[q]? = H[q]? := fun q hq => by simp [Array.getElem?_setIfInBounds, Ne.symm hq]
  have hBd : B0 ≤ da := (hH.1 da _ hda).1
  obtain ⟨t, a1, b1⟩ := kk ((List.range gs.length).map fn) (by simp) (fun hg => BF_mk (by rw [← hgn]; exact sb_fitC hf (BF_get hg))) (H.setIfInBounds da (vp_cell (cA 102) (gs.length, .inl fn))) _ ls ⟨hH.1.put hda ⟨fun z => absurd z (show ¬ 102 < 100 by omega), fun _ => ⟨(show 102 < 108 by omega), (by
      rw [arr_cell2]
      simp [Array.getElem?_setIfInBounds, hlt])⟩⟩ oq, ⟨by simp; exact hH.2.1, fun q g1 g2 => by
      rw [oq q (fun e => g2 (by rw [e]; exact hBd))]
      exact hH.2.2.1 q g1 g2, fun q hq => by
      rcases List.mem_append.mp hq with h | h
      · exact hH.2.2.2 q h
      · obtain ⟨z, -, hz⟩ := List.mem_map.mp h
        rw [← hz]
        exact hBd⟩⟩ hls _ hheap X'
  exact ⟨t, step t a1, b1⟩
theorem acopyH (X : CX p s m args c D cA B0 nL cc own) {idx sa da : Nat} {fs gs : List Int32} {sp dp z : Nat} (hl : Cond.methodLink own idx arraycopyName ∈ WT) (hsa : h sa = some (102, fs.map Value.int))
    (hda : h da = some (102, gs.map Value.int)) (hf : BF fs) (h4 : sp + z ≤ fs.length) (h5 : dp + z ≤ gs.length) (hb1 : fs.length < 2 ^ 20) (hb2 : gs.length < 2 ^ 20)
    (hfr : 1 ≤ R.frames) (hlo : (r.map fun v => v.category).sum + (nativeFrameWords "java/lang/System" "arraycopy" 5 + 11) ≤ R.locals) (hd : decode cc pc = .ok (.invokestatic idx, 3))
    (kk : ∀ gs' : List Int32, gs'.length = gs.length → (BF gs → BF gs') → WS p la e R s m args below meth c Q D cA B0 nL (pc + 3) l r (hup h da (102, gs'.map Value.int)) k n) : WS p la e R s m args below meth c Q D cA B0 nL pc l (vI z :: vI dp :: .ref da :: vI sp :: .ref sa :: r) h k n :=
  acopyG X (f := fun j => fs.getD j 0) (n0 := fs.length) hl (fun H locs hH => ⟨_, row_at (kd := 102) X hH hsa rfl, (X.2.2.2.2.2.1.arr (k := 102) (by omega) (by omega)) fs.length (fun j => .int (fs.getD j 0)), (fun h => by cases h), (by show fs.length ≤ (arrV _ _ _).slots.size; rw [arrV_size]; exact Nat.le_refl _), fun j hj => arrV_read _ _ hj⟩) hda (BF_get hf) h4 h5 hb1 hb2 hfr hlo hd kk
theorem BF_con (i : Nat) (hi : i < 5) : sb_Fit (fun j => (scB.getD i []).getD j 0) := by
  refine BF_get ?_
  match i, hi with
  | 0, _ => exact fun x hx => by cases hx
  | 1, _ => exact fun x hx => by rw [List.mem_singleton.mp hx]; decide
  | 2, _ => exact fun x hx => by rw [List.mem_singleton.mp hx]; decide
  | 3, _ => exact fun x hx => by rw [List.mem_singleton.mp hx]; decide
  | 4, _ => show ∀ x ∈ ([75, 76, 77, 78, 80, 81, 83, 84] : List Int32), fits .byte (.int x) = true; decide
theorem acopyS (X : CX p s m args c D cA B0 nL cc own) (E : EN D cA B0 pa s) {idx sa va da nn : Nat} {gs : List Int32} {dp : Nat} (hl : Cond.methodLink own idx arraycopyName ∈ WT) (hs : StrC D sa va nn ∨ StrH h sa va nn)
    (hda : h da = some (102, gs.map Value.int)) (h5 : dp + nn ≤ gs.length) (hb2 : gs.length < 2 ^ 20)
    (hfr : 1 ≤ R.frames) (hlo : (r.map fun v => v.category).sum + (nativeFrameWords "java/lang/System" "arraycopy" 5 + 11) ≤ R.locals) (hd : decode cc pc = .ok (.invokestatic idx, 3))
    (kk : ∀ gs' : List Int32, gs'.length = gs.length → (BF gs → BF gs') → WS p la e R s m args below meth c Q D cA B0 nL (pc + 3) l r (hup h da (102, gs'.map Value.int)) k n) : WS p la e R s m args below meth c Q D cA B0 nL pc l (vI nn :: vI dp :: .ref da :: vI 0 :: .ref va :: r) h k n := by
  rcases hs with ⟨i, hi, rfl, rfl, rfl⟩ | ⟨x, y, bs, h1, h2, h3, h4⟩
  · refine acopyG X (n0 := scL.getD i 0) (f := fun j => (scB.getD i []).getD j 0) hl (fun H locs hH => ?_) hda (BF_con i hi) (by omega) h5 (by have := scL_le i hi; omega) hb2 hfr hlo hd kk
    obtain ⟨scr, g1, g2, g3, g4, -, g5, g7⟩ := (E.2.2.2.1.2.2.2.2.2.2.2.1.1 i hi).2.2.2
    exact ⟨scr, by rw [hH.2.2.1 _ (Array.getElem?_eq_some_iff.mp g1).1 g7]; exact g1, g2, g3, g4, g5⟩
  · exact acopyH X hl h2 hda h4 (by omega) h5 (by omega) hb2 hfr hlo hd kk
theorem clone_ok (X : CX p s m args c D cA B0 nL cc RJ7) (E : EN D cA B0 pa s) {a : Nat} {bs : List Int32} (ha : h a = some (102, bs.map Value.int)) (hf : BF bs)
    (hfr : 1 ≤ R.frames) (hlo : (r.map fun v => v.category).sum + 14 ≤ R.locals) (hr1 : k + 1 ≤ R.cells) (hr2 : n + bs.length ≤ R.slots) (hd : decode cc pc = .ok (.invokevirtual 310, 3))
    (kk : ∀ q : Nat, h q = none → B0 ≤ q → WS p la e R s m args below meth c Q D cA B0 nL (pc + 3) l (.ref q :: r) (hup h q (102, bs.map Value.int)) (k + 1) (n + bs.length)) : WS p la e R s m args below meth c Q D cA B0 nL pc l (.ref a :: r) h k n := by
  have hX := X
  obtain ⟨hx, hb, hml, hown, hts, hK, hB⟩ := X
  have hcl : va_Nw (.castable "[B" "java/lang/Cloneable") s := E.2.1 _ (by decide +kernel) rfl
  obtain ⟨c0, t0', f1, f2, f3⟩ := Cond.castable_spec (va_Nw.use (A := args) rfl hcl)
  have hnm : s.vm.findClass "[B" = some (cA 102) := by
    obtain ⟨_, _, -, -, k3, -⟩ := hK.2 102 (by decide) (by decide)
    exact k3
  cases hnm.symm.trans f1
  intro H locs ls hH hls
  have hBH : B0 ≤ H.size := Nat.le_trans hB hH.2.1
  have hc1 := row_at (kd := 102) hX hH ha rfl
  intro T hT XX
  have hsz : (vp_cell (cA 102) (bs.length, .inl (fun j => bs.getD j 0))).slots.size = bs.length := arrV_size _ _ _
  obtain ⟨-, kA, hkA, comp, hkind⟩ := State.isArrayOf_alike XX.warmed.alike ((hK.arr (k := 102) (by omega) (by omega)) 0 (fun _ => .null))
  obtain ⟨-, kS, hkS, compS, hkindS⟩ := (hK.arr (k := 102) (by omega) (by omega)) 0 (fun _ => .null)
  obtain ⟨vm', X', st⟩ := XX.cloneArray hx hown (hts _ clnL) (hts _ clnS) (hts _ clnN) (hts _ clnI) (hts _ clnV) (a := a) (cell := vp_cell (cA 102) (bs.length, .inl (fun j => bs.getD j 0))) (by rw [hT]; exact hc1) (fun k h => by cases h) (fun h => by cases h) hnm f2 f3
    (fun i v hv => by
      have hk' : T.vm.classes[cA 102]? = some kA := hkA
      have hv' : fits .byte v = true := by
        have hi : i < bs.length := by rw [← hsz]; exact (Array.getElem?_eq_some_iff.mp hv).1
        have e : (vp_cell (cA 102) (bs.length, .inl (fun j => bs.getD j 0))).slots[i]? = some (.int (bs.getD i 0)) := arrV_read _ _ hi
        rw [e] at hv
        cases hv
        exact BF_get hf i
      have hcl0 : (vp_cell (cA 102) (bs.length, .inl (fun j => bs.getD j 0))).cls = cA 102 := rfl
      rw [hcl0]
      rw [show aty 102 = FieldType.byte from rfl] at hkind
      simpa [State.fitsSlot, State.slotType?, hk', hkind] using hv')
    (g := F0 m pc ls (.ref a :: r)) rfl (by rw [hml.trans hls.1.symm]) rfl (by rw [hb]; exact hd) hfr (by show 2 * 0 + _ + 14 ≤ _; omega) hr1 (by rw [hsz]; exact hr2) (hloader := Vm.clonesLoader_of_array hkS hkindS)
  have hcellE : ({ cls := (vp_cell (cA 102) (bs.length, .inl (fun j => bs.getD j 0))).cls, slots := (vp_cell (cA 102) (bs.length, .inl (fun j => bs.getD j 0))).slots } : Cell) = vp_cell (cA 102) (bs.length, .inl (fun j => bs.getD j 0)) := rfl
  rw [hcellE, hsz] at X'
  generalize hH1 : H.push (vp_cell (cA 102) (bs.length, .inl (fun j => bs.getD j 0))) = H1
  have z1 : H1.size = H.size + 1 := by rw [← hH1, Array.size_push]
  have e1 : H1[H.size]? = some (vp_cell (cA 102) (bs.length, .inl (fun j => bs.getD j 0))) := by rw [← hH1, Array.getElem?_push_size]
  have o1 : ∀ q : Nat, q < H.size → H1[q]? = H[q]? := fun q hq => by rw [← hH1, Array.getElem?_push, if_neg (Nat.ne_of_lt hq)]
  obtain ⟨t, b1, b2⟩ := kk H.size hH.1.fresh hBH H1 locs ls ⟨hH.1.push hBH ⟨fun z => absurd z (show ¬ 102 < 100 by omega), fun _ => ⟨(show 102 < 108 by omega), (by
      rw [e1]
      exact congrArg some (arr_cell (cA 102) bs).symm)⟩⟩ o1, Nat.le_trans hH.2.1 (by omega), fun x h1 h2 => (o1 x (Nat.lt_of_lt_of_le h1 hH.2.1)).trans (hH.2.2.1 x h1 h2), hH.2.2.2⟩ hls
    ((T.setVm vm').pushCell (vp_cell (cA 102) (bs.length, .inl (fun j => bs.getD j 0)))) (by rw [← hH1, ← hT]; rfl) X'
  refine ⟨t, st t ?_, b2⟩
  rw [hcellE, hT]
  exact b1
theorem castB_ok (X : CX p s m args c D cA B0 nL cc RJ7) {a : Nat} {bs : List Int32} (ha : h a = some (102, bs.map Value.int)) (hd : decode cc pc = .ok (.checkcast 311, 3))
    (kk : WS p la e R s m args below meth c Q D cA B0 nL (pc + 3) l (.ref a :: r) h k n) : WS p la e R s m args below meth c Q D cA B0 nL pc l (.ref a :: r) h k n := by
  intro H locs ls hH hls
  refine va_castE X.1 X.2.1 X.2.2.2.1 (X.2.2.2.2.1 _ cstB) ⟨_, row_at (kd := 102) X hH ha rfl, rfl, ?_⟩ hd (kk H locs ls hH hls)
  obtain ⟨_, _, -, -, k3, -⟩ := X.2.2.2.2.2.1.2 102 (by decide) (by decide)
  exact k3
end TX2
end U98gtx2
