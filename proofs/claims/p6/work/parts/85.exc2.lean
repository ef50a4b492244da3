/-! CONTRACTS of methods that return or throw; throws, calls, handlers -/
def XCq (D : va_G) (cA : Nat → ClassId) (B0 : Nat) (px : String → AH → Prop) : String → State → State → Prop := fun E st t =>
  ∃ h' : AH, px E h' ∧ Rp D cA B0 h' t.heap ∧ st.heap.size ≤ t.heap.size ∧ ∀ q : Nat, q < B0 → t.heap[q]? = st.heap[q]?
def CTX (la : Launch) (D : va_G) (cA : Nat → ClassId) (B0 pa : Nat) (y : MethodName) (bytes : ByteArray) (maxL : Nat) (ret : Option FieldType) (rm : Room) (av : List Value) (h : AH) (post : Option Value → AH → Prop) (px : String → AH → Prop) : Prop :=
  vx_Met la y (Cond.code y bytes maxL ret :: WT) rm (PC D cA B0 pa av h) (QC D cA B0 post) (XCq D cA B0 px) rm.cells rm.slots (fun q : Nat => B0 ≤ q)
/-- a method whose handlers catch all that is thrown -/
def CTH (la : Launch) (D : va_G) (cA : Nat → ClassId) (B0 pa : Nat) (y : MethodName) (bytes : ByteArray) (maxL : Nat) (ret : Option FieldType) (hh : List (Nat × Nat × Nat × Nat)) (rm : Room) (av : List Value) (h : AH) (post : Option Value → AH → Prop) : Prop :=
  vx_Met la y (Cond.codeWith y bytes maxL ret hh :: WT) rm (PC D cA B0 pa av h) (QC D cA B0 post) (XCq D cA B0 (fun _ _ => False)) rm.cells rm.slots (fun q : Nat => B0 ≤ q)
abbrev WRX (p : Program) (la : Launch) (e : Env) (rm : Room) (s : State) (m : MethodId) (args : Array Value) (below : List Frame) (meth : Method) (c : Code) (D : va_G) (cA : Nat → ClassId) (B0 nL : Nat) (post : Option Value → AH → Prop) (px : String → AH → Prop) (pc : Nat) (l : List (Nat × Value)) (st : List Value) (h : AH) (k n : Nat) : Prop :=
  WS p la e rm s m args below meth c (vx_MQ below (QC D cA B0 post) (XCq D cA B0 px) args s rm.cells rm.slots (fun q : Nat => B0 ≤ q)) D cA B0 nL pc l st h k n
theorem CTX_of {la : Launch} {D : va_G} {cA : Nat → ClassId} {B0 pa : Nat} {y : MethodName} {bytes : ByteArray} {maxL : Nat} {ret : Option FieldType} {rm : Room} {av : List Value} {h : AH} {post : Option Value → AH → Prop} {px : String → AH → Prop}
    (hy : plainName y.cls = true) (hml : (lg_sl av).length ≤ maxL)
    (body : ∀ (p : Program) (e : Env) (s : State) (m : MethodId) (args : Array Value) (below : List Frame) (meth : Method) (c : Code), CX p s m args c D cA B0 maxL bytes y.cls → EN D cA B0 pa s → meth.sig.returnType = ret → meth.locks = false → meth.name = y.name → (∀ x ∈ c.exceptionTable.toList, False) →
      WRX p la e rm s m args below meth c D cA B0 maxL post px 0 (lv_args 0 av) [] h 0 0) : CTX la D cA B0 pa y bytes maxL ret rm av h post px := by
  refine vx_ofW (cc := bytes) (maxL := maxL) (ret := ret) hy rfl ?_
  intro p e s m args below meth c s₁ B hmlc ht hv
  obtain ⟨rfl, hR, hE⟩ := hv
  have hts := atoms_spec (ws := Cond.code y bytes maxL ret :: WT) B.pre
  have hown : s.vm.findClass y.cls = some m.cls := findClass_of_methodNamed B.named
  have hX : CX p s m av.toArray c D cA B0 maxL bytes y.cls := ⟨B.exec, B.bytes, hmlc, hown, fun w hw => hts w (List.mem_cons_of_mem _ hw), hE.1, hE.2.2.2.2⟩
  have hl := lv_entry av (n := maxL) hml
  rw [lg_entry_eq]
  exact body p e s m av.toArray below meth c hX hE B.returns B.notSynchronized (name_of_methodNamed B.named B.method).1 ht s.heap [] _ ⟨hR, va_S.rf⟩ hl
theorem CTH_of {la : Launch} {D : va_G} {cA : Nat → ClassId} {B0 pa : Nat} {y : MethodName} {bytes : ByteArray} {maxL : Nat} {ret : Option FieldType} {hh : List (Nat × Nat × Nat × Nat)} {rm : Room} {av : List Value} {h : AH} {post : Option Value → AH → Prop}
    (hy : plainName y.cls = true) (hml : (lg_sl av).length ≤ maxL)
    (body : ∀ (p : Program) (e : Env) (s : State) (m : MethodId) (args : Array Value) (below : List Frame) (meth : Method) (c : Code), CX p s m args c D cA B0 maxL bytes y.cls → EN D cA B0 pa s → meth.sig.returnType = ret → meth.locks = false → c.exceptionTable.toList = tableOf hh →
      WRX p la e rm s m args below meth c D cA B0 maxL post (fun _ _ => False) 0 (lv_args 0 av) [] h 0 0) : CTH la D cA B0 pa y bytes maxL ret hh rm av h post := by
  refine vx_ofWH (cc := bytes) (maxL := maxL) (ret := ret) (hh := hh) hy rfl ?_
  intro p e s m args below meth c s₁ B hmlc hv
  obtain ⟨rfl, hR, hE⟩ := hv
  have hts := atoms_spec (ws := Cond.codeWith y bytes maxL ret hh :: WT) B.pre
  have hown : s.vm.findClass y.cls = some m.cls := findClass_of_methodNamed B.named
  have hX : CX p s m av.toArray c D cA B0 maxL bytes y.cls := ⟨B.exec, B.bytes, hmlc, hown, fun w hw => hts w (List.mem_cons_of_mem _ hw), hE.1, hE.2.2.2.2⟩
  have hl := lv_entry av (n := maxL) hml
  rw [lg_entry_eq]
  exact body p e s m av.toArray below meth c hX hE B.returns B.notSynchronized (vx_table (x := y) B (hts _ List.mem_cons_self)) s.heap [] _ ⟨hR, va_S.rf⟩ hl
/-- an exception that is made and thrown: its words -/
def XW (own : String) (ik ic : Nat) (cls : String) (names : List String) : Prop := (Bundle.fit cls = true ∧ ∀ n ∈ names, Bundle.fit n = true) ∧ Cond.classLink own ik cls ∈ WT ∧ Cond.initialized cls ∈ WT ∧ ∀ w ∈ vx_atS own ic cls names, w ∈ lw_tbl ∧ (goodWord w || isNest w) = true
theorem nest_tables {w : Cond} (h : isNest w = true) : w.onTables = true := by
  cases w <;> first | rfl | (simp [isNest] at h)
theorem XW.ot {own : String} {ik ic : Nat} {cls : String} {names : List String} (h : XW own ik ic cls names) : ∀ w ∈ Cond.classLink own ik cls :: Cond.initialized cls :: vx_atS own ic cls names, vx_ot w = true := by
  have g : ∀ w, w ∈ WT → vx_ot w = true := fun w hw => by
    unfold vx_ot
    rw [WT_good w hw, Bool.or_true]
  intro w hw
  rcases List.mem_cons.mp hw with rfl | hw
  · exact g _ h.2.1
  · rcases List.mem_cons.mp hw with rfl | hw
    · exact g _ h.2.2.1
    · have h2 := (h.2.2.2 _ hw).2
      unfold vx_ot
      rw [Bool.or_eq_true] at h2 ⊢
      exact h2.elim Or.inr (fun z => Or.inl (nest_tables z))
theorem word_ok {p : Program} {s : State} {m : MethodId} {args : Array Value} {c : Code} {D : va_G} {cA : Nat → ClassId} {B0 pa nL : Nat} {cc : ByteArray} {own : String} (X : CX p s m args c D cA B0 nL cc own) (E : EN D cA B0 pa s) {w : Cond} (h1 : w ∈ lw_tbl) (h2 : (goodWord w || isNest w) = true) : w.before args s = true := by
  rw [Bool.or_eq_true] at h2
  rcases h2 with h2 | h2
  · exact X.2.2.2.2.1 _ (WT_of h1 h2)
  · exact va_tabs (nest_tables h2) rfl (E.2.1 w h1 h2)
theorem Rp.grow {D : va_G} {cA : Nat → ClassId} {B0 : Nat} {h : AH} {H H1 : Heap} (hR : Rp D cA B0 h H) (hq : ∀ q : Nat, q < H.size → H1[q]? = H[q]?) : Rp D cA B0 h H1 := fun a c ha => ⟨(hR a c ha).1, (hR a c ha).2.kept (hq a (hR.lt ha))⟩
section EXC2
variable {p : Program} {la : Launch} {e : Env} {R : Room} {s : State} {m : MethodId} {args : Array Value} {below : List Frame} {meth : Method} {c : Code} {Q : State → Prop}
variable {D : va_G} {cA : Nat → ClassId} {B0 pa nL : Nat} {cc : ByteArray} {own : String} {pc k n : Nat} {l : List (Nat × Value)} {r : List Value} {h : AH} {post : Option Value → AH → Prop} {px : String → AH → Prop}
theorem WRX.ret {st : List Value} (kk : WR p la e R s m args below meth c D cA B0 nL post pc l st h k n) : WRX p la e R s m args below meth c D cA B0 nL post px pc l st h k n := fun H locs ls hH hl => vx_ret (kk H locs ls hH hl)
theorem thrown_ok (hB : B0 ≤ s.heap.size) {cls : String} {H : Heap} {locs : List Loc} (hH : HS D cA B0 s h H locs) (hp : px cls h) : ∀ t : State, s.vm.Alike t.vm → H.size ≤ t.heap.size → (∀ q : Nat, q < H.size → t.heap[q]? = H[q]?) → XCq D cA B0 px cls s t :=
  fun t _ hz hq => ⟨h, hp, hH.1.grow hq, Nat.le_trans hH.2.1 hz, fun q h1 => (hq q (Nat.lt_of_lt_of_le (Nat.lt_of_lt_of_le h1 hB) hH.2.1)).trans (hH.2.2.1 q (Nat.lt_of_lt_of_le h1 hB) (by omega))⟩
theorem throwS_ok (X : CX p s m args c D cA B0 nL cc own) (E : EN D cA B0 pa s) (hl : la.stackTraces = false) (ht : ∀ x ∈ c.exceptionTable.toList, False) (hlk : meth.locks = false) {cls text : String} {names : List String} {ik is ic : Nat} (hw : XW own ik ic cls names) (htx : (own, is, text) ∈ xsL)
    (d0 : decode cc pc = .ok (.new ik, 3)) (d3 : decode cc (pc + 3) = .ok (.dup, 1)) (d4 : decode cc (pc + 4) = .ok (.ldc is, 2)) (d6 : decode cc (pc + 6) = .ok (.invokespecial ic, 3)) (d9 : decode cc (pc + 9) = .ok (.athrow, 1))
    (hf : names.length + 3 < R.frames ∧ (r.map fun v => v.category).sum + (13 * (names.length + 1) + 43) ≤ R.locals) (hc : k + 1 ≤ R.cells ∧ n + 6 ≤ R.slots) (hp : px cls h) : WRX p la e R s m args below meth c D cA B0 nL post px pc l r h k n := by
  intro H locs ls hH hls
  obtain ⟨sa, hsa⟩ := E.2.2.2.1.2.2.2.2.2.1 _ htx
  exact vx_throwS X.1 X.2.1 hl X.2.2.2.1 hw.1.1 hw.1.2 (X.2.2.2.2.1 _ hw.2.1) (X.2.2.2.2.1 _ hw.2.2.1) hsa (fun w h => word_ok X E (hw.2.2.2 w h).1 (hw.2.2.2 w h).2) hw.ot E.2.2.2.1.2.2.1 E.2.2.2.1.2.2.2.1 hH.2 (hls.1.trans X.2.2.1.symm) d0 d3 d4 d6 d9 (fun x hx => (ht x hx).elim) hf.1 hf.2 hc.1 hc.2 hlk (thrown_ok X.2.2.2.2.2.2 hH hp) hH.2.2.2 hc.1 hc.2
theorem throwW_ok (X : CX p s m args c D cA B0 nL cc own) (E : EN D cA B0 pa s) (hl : la.stackTraces = false) (ht : ∀ x ∈ c.exceptionTable.toList, False) (hlk : meth.locks = false) {cls text : String} {names : List String} {ik is ic : Nat} (hw : XW own ik ic cls names) (htx : (own, is, text) ∈ xsL)
    (d0 : decode cc pc = .ok (.new ik, 3)) (d3 : decode cc (pc + 3) = .ok (.dup, 1)) (d4 : decode cc (pc + 4) = .ok (.ldc_w is, 3)) (d7 : decode cc (pc + 7) = .ok (.invokespecial ic, 3)) (d10 : decode cc (pc + 10) = .ok (.athrow, 1))
    (hf : names.length + 3 < R.frames ∧ (r.map fun v => v.category).sum + (13 * (names.length + 1) + 43) ≤ R.locals) (hc : k + 1 ≤ R.cells ∧ n + 6 ≤ R.slots) (hp : px cls h) : WRX p la e R s m args below meth c D cA B0 nL post px pc l r h k n := by
  intro H locs ls hH hls
  obtain ⟨sa, hsa⟩ := E.2.2.2.1.2.2.2.2.2.1 _ htx
  exact vx_throwSW X.1 X.2.1 hl X.2.2.2.1 hw.1.1 hw.1.2 (X.2.2.2.2.1 _ hw.2.1) (X.2.2.2.2.1 _ hw.2.2.1) hsa (fun w h => word_ok X E (hw.2.2.2 w h).1 (hw.2.2.2 w h).2) hw.ot E.2.2.2.1.2.2.1 E.2.2.2.1.2.2.2.1 hH.2 (hls.1.trans X.2.2.1.symm) d0 d3 d4 d7 d10 (fun x hx => (ht x hx).elim) hf.1 hf.2 hc.1 hc.2 hlk (thrown_ok X.2.2.2.2.2.2 hH hp) hH.2.2.2 hc.1 hc.2
/-- a frame into which something was thrown -/
def WT' (p : Program) (la : Launch) (e : Env) (R : Room) (s : State) (m : MethodId) (args : Array Value) (below : List Frame) (meth : Method) (c : Code) (Q : State → Prop) (D : va_G) (cA : Nat → ClassId) (B0 nL : Nat) (pc : Nat) (l : List (Nat × Value)) (r : List Value) (E : String) (h : AH) (k n : Nat) : Prop :=
  ∀ (H : Heap) (locs : List Loc) (ls : Array Slot) (q : Addr) (ce : Cell), HS D cA B0 s h H locs → lv_has ls nL l → H[q]? = some ce → ce.vm = .none → s.vm.findClass E = some ce.cls → vx_W p la e R s m args below meth c H locs k n Q (F0 m pc ls r) q
theorem runX_ok {mc ms idx : Nat} {st : List Value} {As : Array Value} {post' : Option Value → AH → Prop} {px' : String → AH → Prop} (hB : B0 ≤ s.heap.size)
    (hr : ∀ (H : Heap) (locs : List Loc) (ls : Array Slot), HS D cA B0 s h H locs → lv_has ls nL l → vx_Run p la e R s m args below meth c H locs k n mc ms (F0 m pc ls st) r (QC D cA B0 post' As) (XCq D cA B0 px') (fun q : Nat => B0 ≤ q))
    (kk : ∀ (v : Option Value) (h' : AH), post' v h' → WS p la e R s m args below meth c Q D cA B0 nL (pc + 3) l (v.toList ++ r) h' (k + mc) (n + ms))
    (kx : ∀ (E : String) (h' : AH), px' E h' → WT' p la e R s m args below meth c Q D cA B0 nL pc l r E h' (k + mc) (n + ms)) : WS p la e R s m args below meth c Q D cA B0 nL pc l st h k n := by
  intro H locs ls hH hls T hT X
  have mk : ∀ {t T' : State} {L : List Loc} {st₀ : State} {h' : AH}, st₀.heap = H → T'.heap = t.heap → (∀ q ∈ L, B0 ≤ q.base) → Rp D cA B0 h' t.heap → st₀.heap.size ≤ t.heap.size → (∀ q : Nat, q < B0 → t.heap[q]? = st₀.heap[q]?) → HS D cA B0 s h' T'.heap (locs ++ L) := by
    intro t T' L st₀ h' h0 e1 hL hR hz hq
    have hz' : H.size ≤ T'.heap.size := by rw [e1, ← h0]; exact hz
    exact ⟨by rw [e1]; exact hR, Nat.le_trans hH.2.1 hz', fun q h1 h2 => by rw [e1, hq q (by omega), h0]; exact hH.2.2.1 q h1 h2, fun q hq' => by
      rcases List.mem_append.mp hq' with g | g
      · exact hH.2.2.2 q g
      · exact hL q g⟩
  rcases hr H locs ls hH hls T hT X with ⟨v, st₀, t, T', L, h0, X', hL, e1, e2, ⟨v', h', hv, hp, hR, hz, hq⟩, stp⟩ | ⟨q, st₀, t, T', L, E, ce, h0, X', hL, e1, e2, ⟨h', hp, hR, hz, hq⟩, hce, hcv, hcl, stp⟩
  · cases hv
    obtain ⟨t2, a1, b1⟩ := kk v h' hp T'.heap (locs ++ L) ls (mk h0 e1 hL hR hz hq) hls T' rfl X'
    exact ⟨t2, stp t2 a1, b1⟩
  · obtain ⟨t2, a1, b1⟩ := kx E h' hp T'.heap (locs ++ L) ls q ce (mk h0 e1 hL hR hz hq) hls (by rw [e1]; exact hce) hcv hcl T' rfl X'
    exact ⟨t2, stp.trans a1, b1⟩
/-- not caught here -/
theorem pass_ok (X : CX p s m args c D cA B0 nL cc own) (ht : ∀ x ∈ c.exceptionTable.toList, False) (hlk : meth.locks = false) {E : String} (hp : px E h) (hc : k ≤ R.cells ∧ n ≤ R.slots) : WT' p la e R s m args below meth c (vx_MQ below (QC D cA B0 post) (XCq D cA B0 px) args s R.cells R.slots (fun q : Nat => B0 ≤ q)) D cA B0 nL pc l r E h k n := by
  intro H locs ls q ce hH hls hce hcv hcl
  exact vx_out (fun x hx => (ht x hx).elim) hlk hce hcv hcl (fun t ht' _ => ⟨h, hp, by rw [ht']; exact hH.1, by rw [ht']; exact hH.2.1, fun q hq => by rw [ht']; exact hH.2.2.1 q (Nat.lt_of_lt_of_le hq X.2.2.2.2.2.2) (by omega)⟩) hH.2.2.2 hc.1 hc.2
theorem callVX_ok (X : CX p s m args c D cA B0 nL cc own) (E : EN D cA B0 pa s) (ht : ∀ x ∈ c.exceptionTable.toList, False) (hlk : meth.locks = false) {y : MethodName} {bytes : ByteArray} {maxL idx ci b : Nat} {ret : Option FieldType} {rm : Room} {av fs : List Value} {T : u_T} {N : Nat} {post' : Option Value → AH → Prop} {px' : String → AH → Prop}
    (hM : CTX la D cA B0 pa y bytes maxL ret rm (.ref b :: av) h post' px') (hpx : ∀ E h', px' E h' → px E h') (hL : LK y bytes maxL av.length ret) (hl : Cond.methodLink own idx y ∈ WT) (hi : Cond.instanceMethod y ∈ WT) (hse : Cond.selects y.cls y y ∈ WT) (hR : rm.frames + 1 ≤ R.frames ∧ 8 + (maxL + 11) + rm.locals ≤ R.locals) (hf : k + rm.cells ≤ R.cells ∧ n + rm.slots ≤ R.slots)
    (hc : vwCl[ci]? = some (y.cls, T, N)) (hb : h b = some (ci, fs))
    (hW : (r.map fun v => v.category).sum ≤ 8) (hd : decode cc pc = .ok (.invokevirtual idx, 3))
    (kk : ∀ (v : Option Value) (h' : AH), post' v h' → WRX p la e R s m args below meth c D cA B0 nL post px (pc + 3) l (v.toList ++ r) h' (k + rm.cells) (n + rm.slots)) : WRX p la e R s m args below meth c D cA B0 nL post px pc l (av.reverse ++ .ref b :: r) h k n := by
  refine runX_ok (idx := idx) (As := (Value.ref b :: av).toArray) X.2.2.2.2.2.2 (fun H locs ls hH hls => vx_runV (C := y.cls) (fix_ok X) hM ⟨callB_ok X hL hl hR, X.2.2.2.2.1 _ hi, X.2.2.2.2.1 _ hse⟩ ⟨PC_blind, ?_, (preS_of X E hH (.ref b :: av)).2⟩ rfl rfl hls.1 rfl (lv_room hW) hd hf) kk (fun E' h' hp => pass_ok X ht hlk (hpx _ _ hp) hf)
  obtain ⟨r1, g0, -, cell, g1, g2, g3, -⟩ := (hH.1 b _ hb).2.1 (vwCl_lt hc)
  exact ⟨cell, g1, by rw [g3]; rfl, by rw [g2]; exact (X.2.2.2.2.2.1.1.1 ci _ hc).2.1⟩
theorem callSX_ok (X : CX p s m args c D cA B0 nL cc own) (E : EN D cA B0 pa s) (ht : ∀ x ∈ c.exceptionTable.toList, False) (hlk : meth.locks = false) {y : MethodName} {bytes : ByteArray} {maxL idx : Nat} {ret : Option FieldType} {rm : Room} {av : List Value} {post' : Option Value → AH → Prop} {px' : String → AH → Prop}
    (hM : CTX la D cA B0 pa y bytes maxL ret rm av h post' px') (hpx : ∀ E h', px' E h' → px E h') (hL : LK y bytes maxL av.length ret) (hl : Cond.methodLink own idx y ∈ WT) (hs : Cond.static y ∈ WT) (hR : rm.frames + 1 ≤ R.frames ∧ 8 + (maxL + 11) + rm.locals ≤ R.locals) (hf : k + rm.cells ≤ R.cells ∧ n + rm.slots ≤ R.slots)
    (hW : (r.map fun v => v.category).sum ≤ 8) (hd : decode cc pc = .ok (.invokestatic idx, 3))
    (kk : ∀ (v : Option Value) (h' : AH), post' v h' → WRX p la e R s m args below meth c D cA B0 nL post px (pc + 3) l (v.toList ++ r) h' (k + rm.cells) (n + rm.slots)) : WRX p la e R s m args below meth c D cA B0 nL post px pc l (av.reverse ++ r) h k n :=
  runX_ok (idx := idx) X.2.2.2.2.2.2 (fun H locs ls hH hls => vx_runS (fix_ok X) hM ⟨callB_ok X hL hl hR, X.2.2.2.2.1 _ hs⟩ (preS_of X E hH av) rfl rfl hls.1 rfl (lv_room hW) hd hf) kk (fun E' h' hp => pass_ok X ht hlk (hpx _ _ hp) hf)
/-- a call in a method that has handlers -/
theorem callVH_ok (X : CX p s m args c D cA B0 nL cc own) (E : EN D cA B0 pa s) {y : MethodName} {bytes : ByteArray} {maxL idx ci b : Nat} {ret : Option FieldType} {rm : Room} {av fs : List Value} {T : u_T} {N : Nat} {post' : Option Value → AH → Prop} {px' : String → AH → Prop}
    (hM : CTX la D cA B0 pa y bytes maxL ret rm (.ref b :: av) h post' px') (hL : LK y bytes maxL av.length ret) (hl : Cond.methodLink own idx y ∈ WT) (hi : Cond.instanceMethod y ∈ WT) (hse : Cond.selects y.cls y y ∈ WT) (hR : rm.frames + 1 ≤ R.frames ∧ 8 + (maxL + 11) + rm.locals ≤ R.locals) (hf : k + rm.cells ≤ R.cells ∧ n + rm.slots ≤ R.slots)
    (hc : vwCl[ci]? = some (y.cls, T, N)) (hb : h b = some (ci, fs))
    (hW : (r.map fun v => v.category).sum ≤ 8) (hd : decode cc pc = .ok (.invokevirtual idx, 3))
    (kk : ∀ (v : Option Value) (h' : AH), post' v h' → WS p la e R s m args below meth c Q D cA B0 nL (pc + 3) l (v.toList ++ r) h' (k + rm.cells) (n + rm.slots))
    (kx : ∀ (E : String) (h' : AH), px' E h' → WT' p la e R s m args below meth c Q D cA B0 nL pc l r E h' (k + rm.cells) (n + rm.slots)) : WS p la e R s m args below meth c Q D cA B0 nL pc l (av.reverse ++ .ref b :: r) h k n := by
  refine runX_ok (idx := idx) (As := (Value.ref b :: av).toArray) X.2.2.2.2.2.2 (fun H locs ls hH hls => vx_runV (C := y.cls) (fix_ok X) hM ⟨callB_ok X hL hl hR, X.2.2.2.2.1 _ hi, X.2.2.2.2.1 _ hse⟩ ⟨PC_blind, ?_, (preS_of X E hH (.ref b :: av)).2⟩ rfl rfl hls.1 rfl (lv_room hW) hd hf) kk kx
  obtain ⟨r1, g0, -, cell, g1, g2, g3, -⟩ := (hH.1 b _ hb).2.1 (vwCl_lt hc)
  exact ⟨cell, g1, by rw [g3]; rfl, by rw [g2]; exact (X.2.2.2.2.2.1.1.1 ci _ hc).2.1⟩
/-- a handler -/
theorem catch_ok (X : CX p s m args c D cA B0 nL cc own) (E' : EN D cA B0 pa s) {E name : String} (pre : List ExceptionTableEntry) (x : ExceptionTableEntry) (suf : List ExceptionTableEntry) (hsplit : c.exceptionTable.toList = pre ++ x :: suf)
    (hpass : ∀ z ∈ pre, covers z pc = false ∨ (z.catchType ≠ 0 ∧ ∃ nm : String, Cond.classLink own z.catchType nm ∈ WT ∧ va_Nc E nm s)) (hx : covers x pc = true) (h0 : x.catchType ≠ 0)
    (hlink : Cond.classLink own x.catchType name ∈ WT) (hcast : Cond.castable E name ∈ lw_tbl)
    (kk : ∀ q : Addr, WS p la e R s m args below meth c Q D cA B0 nL x.handlerPc l [.ref q] h k n) : WT' p la e R s m args below meth c Q D cA B0 nL pc l r E h k n := by
  intro H locs ls q ce hH hls hce hcv hcl
  exact vx_catch X.2.2.2.1 pre x suf hsplit (fun z hz => (hpass z hz).imp id (fun w => ⟨w.1, w.2.elim fun nm g => ⟨nm, X.2.2.2.2.1 _ g.1, g.2⟩⟩)) hx h0 (X.2.2.2.2.1 _ hlink) (word_ok X E' hcast (by simp [isNest])) hce hcv hcl (kk q H locs ls hH hls)
theorem callSH_ok (X : CX p s m args c D cA B0 nL cc own) (E : EN D cA B0 pa s) {y : MethodName} {bytes : ByteArray} {maxL idx : Nat} {ret : Option FieldType} {hh : List (Nat × Nat × Nat × Nat)} {rm : Room} {av : List Value} {post' : Option Value → AH → Prop}
    (hM : CTH la D cA B0 pa y bytes maxL ret hh rm av h post') (hcw : Cond.codeWith y bytes maxL ret hh ∈ WT) (hini : Cond.initialized y.cls ∈ WT) (hl : Cond.methodLink own idx y ∈ WT) (hs : Cond.static y ∈ WT) (hy : y.cls ≠ "java/lang/invoke/MethodHandle" ∧ y.cls ≠ "java/lang/invoke/VarHandle" ∧ (parseMethodDescriptor y.desc).map (fun d => d.parameters.length) = some av.length)
    (hR : rm.frames + 1 ≤ R.frames ∧ 8 + (maxL + 11) + rm.locals ≤ R.locals) (hf : k + rm.cells ≤ R.cells ∧ n + rm.slots ≤ R.slots)
    (hW : (r.map fun v => v.category).sum ≤ 8) (hd : decode cc pc = .ok (.invokestatic idx, 3))
    (kk : ∀ (v : Option Value) (h' : AH), post' v h' → WS p la e R s m args below meth c Q D cA B0 nL (pc + 3) l (v.toList ++ r) h' (k + rm.cells) (n + rm.slots)) : WS p la e R s m args below meth c Q D cA B0 nL pc l (av.reverse ++ r) h k n := by
  have hT : GoodIn WT (va_wsS own idx y (Cond.codeWith y bytes maxL ret hh :: WT)) := by
    intro w hw
    have g : ∀ w, w ∈ WT → w ∈ WT ∧ ((w.onTables && w.keeps) = true ∨ ∃ ty, w = .arrayClass ty) := fun w h => ⟨h, good_of_word (WT_good _ h)⟩
    simp only [va_wsS, List.mem_append, List.mem_cons, List.not_mem_nil, or_false] at hw
    rcases hw with hw | hw | hw <;> first | exact g _ hw | (rcases hw with hw | hw | hw <;> subst hw <;> first | exact g _ hini | exact g _ hl | exact g _ hs) | (subst hw; exact g _ hcw)
  exact runX_ok (idx := idx) X.2.2.2.2.2.2 (fun H locs ls hH hls => vx_runSX (fix_ok X) hM (vx_cwSW av.length X.2.2.2.2.1 hT rfl rfl rfl hy hR) (preS_of X E hH av) rfl rfl hls.1 rfl (lv_room hW) hd hf) kk (fun _ _ hp => hp.elim)
end EXC2
