/-! texts: rows of bytes, fields of StringBuilder and String, calls of inherited methods -/
def BF (bs : List Int32) : Prop := ∀ x ∈ bs, fits .byte (.int x) = true
theorem BF_get {bs : List Int32} (h : BF bs) : sb_Fit (fun j => bs.getD j 0) := by
  intro j
  show fits .byte (.int (bs.getD j 0)) = true
  rw [List.getD_eq_getElem?_getD]
  cases e : bs[j]? with
  | none => rfl
  | some x => exact h x (List.mem_of_getElem? e)
theorem BF_mk {n : Nat} {f : Nat → Int32} (h : sb_Fit f) : BF ((List.range n).map f) := by
  intro x hx
  obtain ⟨j, -, rfl⟩ := List.mem_map.mp hx
  exact h j
theorem BF_zero (n : Nat) : BF (List.replicate n 0) := fun x hx => by rw [(List.mem_replicate.mp hx).2]; rfl
theorem BF_set {bs : List Int32} (h : BF bs) (j : Nat) {x : Int32} (hx : fits .byte (.int x) = true) : BF (bs.set j x) := fun y hy => (List.mem_or_eq_of_mem_set hy).elim (h y) (fun e => by rw [e]; exact hx)
theorem bf_get {bs : List Int32} {j : Nat} (hj : j < bs.length) : vp_V (bs.map Value.int) j = .int (bs.getD j 0) := vp_V_get (by simp [List.getD_eq_getElem?_getD, hj])
theorem arr_cell (cI : ClassId) (bs : List Int32) : arrV cI (bs.map Value.int).length (vp_V (bs.map Value.int)) = vp_cell cI (bs.length, .inl (fun j => bs.getD j 0)) := by
  rw [List.length_map]
  rw [vp_cell_i]
  unfold arrV
  congr 2
  funext q
  exact bf_get q.isLt
theorem arr_cell2 (cI : ClassId) (n : Nat) (f : Nat → Int32) : arrV cI (((List.range n).map f).map Value.int).length (vp_V (((List.range n).map f).map Value.int)) = vp_cell cI (n, .inl f) := by
  rw [List.length_map, List.length_map, List.length_range]
  rw [vp_cell_i]
  unfold arrV
  congr 2
  funext q
  exact vp_V_get (by simp)
/-- a field that a class has from the class above it -/
def FLi (own : String) (idx ci kf : Nat) : Prop := ∃ (C : String) (T : u_T) (N : Nat) (ty : Nat → FieldType), vwCl[ci]? = some (C, T, N) ∧ (∀ w ∈ u_ws C T N, w ∈ WT) ∧ kf < N ∧ Cond.fieldLink own idx (T kf).1 (T kf).2.1 (T kf).2.2.1 ∈ WT ∧
  (∀ k, k < N → parseFieldDescriptor (T k).2.2.1 = some (ty k)) ∧ (∀ a, a < N → ∀ b, b < N → a ≠ b → (T a).2.1 ≠ (T b).2.1)
set_option maxRecDepth 100000 in
theorem cwJ4 : ∀ w ∈ u_ws RJ4 TJ4 4, w ∈ WT := fun w h => WT_of ((show ∀ w ∈ u_ws RJ4 TJ4 4, w ∈ lw_tbl by decide +kernel) w h) ((show ∀ w ∈ u_ws RJ4 TJ4 4, goodWord w = true by decide +kernel) w h)
set_option maxRecDepth 100000 in
theorem cwJ0 : ∀ w ∈ u_ws RJ0 TJ0 4, w ∈ WT := fun w h => WT_of ((show ∀ w ∈ u_ws RJ0 TJ0 4, w ∈ lw_tbl by decide +kernel) w h) ((show ∀ w ∈ u_ws RJ0 TJ0 4, goodWord w = true by decide +kernel) w h)
set_option maxRecDepth 100000 in
theorem flJ5_15 : FLi RJ5 15 1 0 := ⟨RJ4, TJ4, 4, tyJ4, rfl, cwJ4, by decide, WT_of (by decide +kernel) rfl, tyJ4_ok, nmJ4⟩
set_option maxRecDepth 100000 in
theorem flJ5_22 : FLi RJ5 22 1 1 := ⟨RJ4, TJ4, 4, tyJ4, rfl, cwJ4, by decide, WT_of (by decide +kernel) rfl, tyJ4_ok, nmJ4⟩
set_option maxRecDepth 100000 in
theorem flJ5_79 : FLi RJ5 79 1 3 := ⟨RJ4, TJ4, 4, tyJ4, rfl, cwJ4, by decide, WT_of (by decide +kernel) rfl, tyJ4_ok, nmJ4⟩
set_option maxRecDepth 100000 in
theorem flJ0_9 : FLi RJ0 9 0 0 := ⟨RJ0, TJ0, 4, tyJ0, rfl, cwJ0, by decide, WT_of (by decide +kernel) rfl, tyJ0_ok, nmJ0⟩
set_option maxRecDepth 100000 in
theorem flJ0_15 : FLi RJ0 15 0 1 := ⟨RJ0, TJ0, 4, tyJ0, rfl, cwJ0, by decide, WT_of (by decide +kernel) rfl, tyJ0_ok, nmJ0⟩
set_option maxRecDepth 100000 in
theorem flJ0_9' : FL RJ0 9 0 0 := ⟨RJ0, TJ0, 4, tyJ0, rfl, cwJ0, by decide, WT_of (by decide +kernel) rfl, rfl, tyJ0_ok, nmJ0⟩
set_option maxRecDepth 100000 in
theorem flJ0_15' : FL RJ0 15 0 1 := ⟨RJ0, TJ0, 4, tyJ0, rfl, cwJ0, by decide, WT_of (by decide +kernel) rfl, rfl, tyJ0_ok, nmJ0⟩
theorem ftJ4_0 : FT 1 0 (.array .byte) false := ⟨RJ4, TJ4, 4, rfl, by decide +kernel, rfl⟩
theorem ftJ4_1 : FT 1 1 .byte false := ⟨RJ4, TJ4, 4, rfl, by decide +kernel, rfl⟩
theorem ftJ4_3 : FT 1 3 .int false := ⟨RJ4, TJ4, 4, rfl, by decide +kernel, rfl⟩
theorem ftJ0_0 : FT 0 0 (.array .byte) true := ⟨RJ0, TJ0, 4, rfl, by decide +kernel, rfl⟩
theorem ftJ0_1 : FT 0 1 .byte true := ⟨RJ0, TJ0, 4, rfl, by decide +kernel, rfl⟩
set_option maxRecDepth 100000 in
theorem acByte : Cond.arrayClass .byte ∈ WT := WT_of (by decide +kernel) rfl
/-- a text: a constant, or one that was made -/
def StrC (D : va_G) (sa va n : Nat) : Prop := ∃ i, i < 5 ∧ sa = D.2 50 i ∧ va = D.2 51 i ∧ n = scL.getD i 0
def StrH (h : AH) (sa va n : Nat) : Prop := ∃ (x y : Value) (bs : List Int32), h sa = some (0, [.ref va, .int 0, x, y]) ∧ h va = some (102, bs.map Value.int) ∧ bs.length = n ∧ BF bs
def StrA (D : va_G) (h : AH) (sa n : Nat) : Prop := ∃ va, StrC D sa va n ∨ StrH h sa va n
/-- a text in the making, of n letters, its row v of m bytes -/
def SBp (h : AH) (b v n m : Nat) : Prop := ∃ (t : Value) (bs : List Int32), h b = some (1, [.ref v, .int 0, t, vI n]) ∧ h v = some (102, bs.map Value.int) ∧ bs.length = m ∧ BF bs ∧ n ≤ m ∧ m ≤ 1000
theorem scL_le : ∀ i, i < 5 → scL.getD i 0 ≤ 8 := by decide
section TX1
variable {p : Program} {la : Launch} {e : Env} {R : Room} {s : State} {m : MethodId} {args : Array Value} {below : List Frame} {meth : Method} {c : Code} {Q : State → Prop}
variable {D : va_G} {cA : Nat → ClassId} {B0 pa nL : Nat} {cc : ByteArray} {own : String} {pc k n : Nat} {l : List (Nat × Value)} {r : List Value} {h : AH}
theorem getfI_ok (X : CX p s m args c D cA B0 nL cc own) {idx ci kf a : Nat} {fs : List Value} {v : Value} (hF : FLi own idx ci kf) (hd : decode cc pc = .ok (.getfield idx, 3)) (ha : h a = some (ci, fs)) (hv : fs[kf]? = some v)
    (kk : WS p la e R s m args below meth c Q D cA B0 nL (pc + 3) l (v :: r) h k n) : WS p la e R s m args below meth c Q D cA B0 nL pc l (.ref a :: r) h k n := by
  obtain ⟨hx, hb, hml, hown, hts, hK, hB⟩ := X
  obtain ⟨C, T, N, ty, hc, hin, hk, hl, hty, hnm⟩ := hF
  intro H locs ls hH hls
  obtain ⟨r0, h1, h2, cell, q1, q2, q3, q4⟩ := (hH.1 a _ ha).2.1 (vwCl_lt hc)
  have hr : r0 = (C, T, N) := Option.some.inj (h1.symm.trans hc)
  subst hr
  obtain ⟨hS, hfc, kC, hkC, hkind⟩ := hK.1.1 ci _ hc
  obtain ⟨cf, kf0, fi, f, hi, hsl⟩ := hS kf hk
  refine W.getf hx hb hown (hts _ hl) hi (u_facts hfc hkC (u_lays hts hin hk) hi).1 q1 (by rw [q3]; exact fun h => by cases h) (v := v) ?_ rfl rfl hd (kk H locs ls hH hls)
  rw [hsl, q4 kf hk]
  simp [vp_V, hv]
theorem putfI_ok (X : CX p s m args c D cA B0 nL cc own) {idx ci kf a : Nat} {fs : List Value} {v : Value} {ty : FieldType} (hF : FLi own idx ci kf) (hT : FT ci kf ty false)
    (hn : narrow ty v = v) (hfit : fits ty v = true) (hd : decode cc pc = .ok (.putfield idx, 3)) (ha : h a = some (ci, fs)) (hl0 : kf < fs.length)
    (kk : WS p la e R s m args below meth c Q D cA B0 nL (pc + 3) l r (hup h a (ci, fs.set kf v)) k n) : WS p la e R s m args below meth c Q D cA B0 nL pc l (v :: .ref a :: r) h k n := by
  obtain ⟨hx, hb, hml, hown, hts, hK, hB⟩ := X
  obtain ⟨C, T, N, ty0, hc, hin, hk, hl, hty, hnm⟩ := hF
  obtain ⟨C', T', N', hc', hdt, hfn⟩ := hT
  cases hc.symm.trans hc'
  intro H locs ls hH hls
  obtain ⟨r0, h1, h2, cell, q1, q2, q3, q4⟩ := (hH.1 a _ ha).2.1 (vwCl_lt hc)
  have hr : r0 = (C, T, N) := Option.some.inj (h1.symm.trans hc)
  subst hr
  have hap := va_apart (own := own) hts hin ty0 hty hnm hK.1 hc
  obtain ⟨hS, hfc, kC, hkC, hkind⟩ := hK.1.1 ci _ hc
  obtain ⟨cf, kf0, fi, f, hi, hsl⟩ := hS kf hk
  have hlay := hts _ (hin _ (u_in_lay hk))
  have hst := (u_facts hfc hkC (u_lays hts hin hk) hi).1
  unfold u_lay at hlay
  rw [if_neg (by rw [hfn]; decide)] at hlay
  have h6 := u_store hfc hkC hkind hlay hi hdt hn hfit
  refine W.putK hx hb (f := f) ⟨hown, hts _ hl, ⟨_, _, _, hi⟩, hst⟩ (by rw [q2]; exact h6) q1 q3 (by rw [hsl]; exact k2_hasslot (q4 kf hk)) rfl rfl hd (fun H1 e1 e2 e3 => ?_)
  rw [hsl] at e1 ⊢
  exact kk H1 _ ls ⟨hH.1.put ha ⟨fun _ => ⟨_, hc, by simpa using h2, t_OB.to (V := updV (vp_V fs) kf v) ⟨_, e1, q2, q3, t_set q4 hap hk v⟩ (fun j _ => vp_updV_set hl0 v j)⟩, fun z => absurd (vwCl_lt hc) z⟩ e3, hH.2.put e2 e3 (hH.1 a _ ha).1⟩ hls
/-- COMPACT_STRINGS -/
theorem getsC_ok (X : CX p s m args c D cA B0 nL cc own) (E : EN D cA B0 pa s) {idx : Nat} (hl : Cond.fieldLink own idx "java/lang/String" "COMPACT_STRINGS" "Z" ∈ WT) (hd : decode cc pc = .ok (.getstatic idx, 3))
    (kk : WS p la e R s m args below meth c Q D cA B0 nL (pc + 3) l (.int 1 :: r) h k n) : WS p la e R s m args below meth c Q D cA B0 nL pc l r h k n := by
  intro H locs ls hH hls
  exact va_gets X.1 X.2.1 E.2.2.2.1.2.2.2.2.1 hH.2 X.2.2.2.1 (X.2.2.2.2.1 _ hl) (fun _ h => h) hd (kk H locs ls hH hls)
/-- a static that holds null or a reference -/
theorem getsF_ok (X : CX p s m args c D cA B0 nL cc own) (E : EN D cA B0 pa s) {idx : Nat} (hl : Cond.fieldLink own idx "jdk/internal/util/Preconditions" "SIOOBE_FORMATTER" "Ljava/util/function/BiFunction;" ∈ WT) (hd : decode cc pc = .ok (.getstatic idx, 3))
    (kk : ∀ v : Value, (v = .null ∨ ∃ t, v = .ref t) → WS p la e R s m args below meth c Q D cA B0 nL (pc + 3) l (v :: r) h k n) : WS p la e R s m args below meth c Q D cA B0 nL pc l r h k n := by
  intro H locs ls hH hls
  rcases E.2.2.2.1.2.2.2.2.2.2.2.2.2 with hz | ⟨t, hz⟩
  · exact va_gets X.1 X.2.1 hz hH.2 X.2.2.2.1 (X.2.2.2.2.1 _ hl) (fun _ h => h) hd (kk _ (Or.inl rfl) H locs ls hH hls)
  · exact va_gets X.1 X.2.1 hz hH.2 X.2.2.2.1 (X.2.2.2.2.1 _ hl) (fun _ h => h) hd (kk _ (Or.inr ⟨t, rfl⟩) H locs ls hH hls)
/-- a constant text -/
theorem ldcT_ok (X : CX p s m args c D cA B0 nL cc own) (E : EN D cA B0 pa s) (i : Nat) {idx : Nat} (hi : i < 5) (ho : own = scO i) (hx : idx = scK i) (hd : decode cc pc = .ok (.ldc idx, 2))
    (kk : WS p la e R s m args below meth c Q D cA B0 nL (pc + 2) l (.ref (D.2 50 i) :: r) h k n) : WS p la e R s m args below meth c Q D cA B0 nL pc l r h k n := by
  subst ho
  subst hx
  intro H locs ls hH hls
  exact va_ldcS X.1 X.2.1 X.2.2.2.1 (E.2.2.2.1.2.2.2.2.2.2.1 i hi) hd (kk H locs ls hH hls)
theorem strV_ok (X : CX p s m args c D cA B0 nL cc RJ0) (E : EN D cA B0 pa s) {sa va nn : Nat} (hs : StrC D sa va nn ∨ StrH h sa va nn) (hd : decode cc pc = .ok (.getfield 9, 3))
    (kk : WS p la e R s m args below meth c Q D cA B0 nL (pc + 3) l (.ref va :: r) h k n) : WS p la e R s m args below meth c Q D cA B0 nL pc l (.ref sa :: r) h k n := by
  rcases hs with ⟨i, hi, rfl, rfl, -⟩ | ⟨x, y, bs, h1, -⟩
  · intro H locs ls hH hls
    exact vk_getf X.1 X.2.1 (E.2.2.2.1.2.2.2.2.2.2.2.1.1 i hi).2.2.1 hH.2 X.2.2.2.1 (X.2.2.2.2.1 (Cond.fieldLink RJ0 9 "java/lang/String" "value" "[B") (by obtain ⟨C, T, N, ty, hc, -, -, h3, -⟩ := flJ0_9; cases hc; exact h3)) (fun _ h => h) hd (kk H locs ls hH hls)
  · exact getfI_ok X flJ0_9 hd h1 rfl kk
theorem strK_ok (X : CX p s m args c D cA B0 nL cc RJ0) (E : EN D cA B0 pa s) {sa va nn : Nat} (hs : StrC D sa va nn ∨ StrH h sa va nn) (hd : decode cc pc = .ok (.getfield 15, 3))
    (kk : WS p la e R s m args below meth c Q D cA B0 nL (pc + 3) l (.int 0 :: r) h k n) : WS p la e R s m args below meth c Q D cA B0 nL pc l (.ref sa :: r) h k n := by
  rcases hs with ⟨i, hi, rfl, rfl, -⟩ | ⟨x, y, bs, h1, -⟩
  · intro H locs ls hH hls
    exact vk_getf X.1 X.2.1 (E.2.2.2.1.2.2.2.2.2.2.2.1.1 i hi).2.1 hH.2 X.2.2.2.1 (X.2.2.2.2.1 (Cond.fieldLink RJ0 15 "java/lang/String" "coder" "B") (by obtain ⟨C, T, N, ty, hc, -, -, h3, -⟩ := flJ0_15; cases hc; exact h3)) (fun _ h => h) hd (kk H locs ls hH hls)
  · exact getfI_ok X flJ0_15 hd h1 rfl kk
theorem strL_ok (X : CX p s m args c D cA B0 nL cc own) (E : EN D cA B0 pa s) {sa va nn : Nat} (hs : StrC D sa va nn ∨ StrH h sa va nn) (hd : decode cc pc = .ok (.arraylength, 1))
    (kk : WS p la e R s m args below meth c Q D cA B0 nL (pc + 1) l (vI nn :: r) h k n) : WS p la e R s m args below meth c Q D cA B0 nL pc l (.ref va :: r) h k n := by
  rcases hs with ⟨i, hi, rfl, rfl, rfl⟩ | ⟨x, y, bs, -, h2, h3, -⟩
  · intro H locs ls hH hls
    exact va_tlen X.1 X.2.1 (E.2.2.2.1.2.2.2.2.2.2.2.1.1 i hi).2.2.2 hH.2 rfl hd (kk H locs ls hH hls)
  · refine alen_ok X (by decide) hd h2 ?_
    rw [List.length_map, h3]
    exact kk
/-- the receiver of a call on a text -/
theorem str_cls (X : CX p s m args c D cA B0 nL cc own) (E : EN D cA B0 pa s) {sa va nn : Nat} (hs : StrC D sa va nn ∨ StrH h sa va nn) {H : Heap} {locs : List Loc} (hH : HS D cA B0 s h H locs) : ∃ cell : Cell, H[sa]? = some cell ∧ cell.vm.isStatics = false ∧ s.vm.findClass RJ0 = some cell.cls := by
  rcases hs with ⟨i, hi, rfl, rfl, -⟩ | ⟨x, y, bs, h1, -⟩
  · exact vk_recv E.2.2.2.1.2.2.2.2.2.2.2.1 hi hH.2
  · obtain ⟨r1, g0, -, cell, g1, g2, g3, -⟩ := (hH.1 sa _ h1).2.1 (by show (0 : Nat) < 100; decide)
    exact ⟨cell, g1, by rw [g3]; rfl, by rw [g2]; exact (X.2.2.2.2.2.1.1.1 0 _ rfl).2.1⟩
theorem callT_ok (X : CX p s m args c D cA B0 nL cc own) (E : EN D cA B0 pa s) {y : MethodName} {bytes : ByteArray} {maxL idx sa va nn : Nat} {ret : Option FieldType} {rm : Room} {av : List Value} {post : Option Value → AH → Prop} (hs : StrC D sa va nn ∨ StrH h sa va nn)
    (hM : CT la D cA B0 pa y bytes maxL ret rm (.ref sa :: av) h post) (hL : LK y bytes maxL av.length ret) (hl : Cond.methodLink own idx y ∈ WT) (hi : Cond.instanceMethod y ∈ WT) (hse : Cond.selects RJ0 y y ∈ WT) (hR : rm.frames + 1 ≤ R.frames ∧ 8 + (maxL + 11) + rm.locals ≤ R.locals) (hf : k + rm.cells ≤ R.cells ∧ n + rm.slots ≤ R.slots)
    (hW : (r.map fun v => v.category).sum ≤ 8) (hd : decode cc pc = .ok (.invokevirtual idx, 3))
    (kk : ∀ (v : Option Value) (h' : AH), post v h' → WS p la e R s m args below meth c Q D cA B0 nL (pc + 3) l (v.toList ++ r) h' (k + rm.cells) (n + rm.slots)) : WS p la e R s m args below meth c Q D cA B0 nL pc l (av.reverse ++ .ref sa :: r) h k n :=
  run_ok (idx := idx) (As := (Value.ref sa :: av).toArray) X.2.2.2.2.2.2 (fun H locs ls hH hls => va_runV (C := RJ0) (fix_ok X) hM ⟨callB_ok X hL hl hR, X.2.2.2.2.1 _ hi, X.2.2.2.2.1 _ hse⟩ ⟨PC_blind, str_cls X E hs hH, (preS_of X E hH (.ref sa :: av)).2⟩ rfl rfl hls.1 rfl (lv_room hW) hd hf) kk
/-- a method that the class has from the class above it -/
theorem callU_ok (X : CX p s m args c D cA B0 nL cc own) (E : EN D cA B0 pa s) {x y : MethodName} {C : String} {bytes : ByteArray} {maxL idx ci b : Nat} {ret : Option FieldType} {rm : Room} {av fs : List Value} {T : u_T} {N : Nat} {post : Option Value → AH → Prop}
    (hM : CT la D cA B0 pa y bytes maxL ret rm (.ref b :: av) h post) (hL : LK y bytes maxL av.length ret) (hyx : x = y) (hl : Cond.methodLink own idx y ∈ WT) (hsm : Cond.sameMethod y.cls y.cls y.name y.desc ∈ WT) (hse : Cond.selects C y y ∈ WT) (hi : Cond.instanceMethod y ∈ WT) (hR : rm.frames + 1 ≤ R.frames ∧ 8 + (maxL + 11) + rm.locals ≤ R.locals) (hf : k + rm.cells ≤ R.cells ∧ n + rm.slots ≤ R.slots)
    (hc : vwCl[ci]? = some (C, T, N)) (hb : h b = some (ci, fs))
    (hW : (r.map fun v => v.category).sum ≤ 8) (hd : decode cc pc = .ok (.invokevirtual idx, 3))
    (kk : ∀ (v : Option Value) (h' : AH), post v h' → WS p la e R s m args below meth c Q D cA B0 nL (pc + 3) l (v.toList ++ r) h' (k + rm.cells) (n + rm.slots)) : WS p la e R s m args below meth c Q D cA B0 nL pc l (av.reverse ++ .ref b :: r) h k n := by
  have g : ∀ w, w ∈ WT → w ∈ WT ∧ ((w.onTables && w.keeps) = true ∨ ∃ ty, w = .arrayClass ty) := fun w h => ⟨h, good_of_word (WT_good _ h)⟩
  have hT : GoodIn WT (va_wsU own idx C y.cls y y (Cond.code y bytes maxL ret :: WT)) := by
    intro w hw
    simp only [va_wsU, List.mem_append, List.mem_cons, List.not_mem_nil, or_false] at hw
    rcases hw with (hw | hw | hw | hw | hw) | hw | hw
    · subst hw; exact g _ hl
    · subst hw; exact g _ hsm
    · subst hw; exact g _ hse
    · subst hw; exact g _ hi
    · subst hw; exact g _ hL.2.1
    · subst hw; exact g _ hL.1
    · exact g _ hw
  refine run_ok (idx := idx) (As := (Value.ref b :: av).toArray) X.2.2.2.2.2.2 (fun H locs ls hH hls => va_runU (C := C) (owner := y.cls) (x := y) (fix_ok X) hM (va_cwU av.length X.2.2.2.2.1 hT rfl rfl rfl rfl ⟨hL.2.2.1.1, hL.2.2.1.2, hL.2.2.2⟩ hR) ⟨PC_blind, ?_, (preS_of X E hH (.ref b :: av)).2⟩ rfl rfl hls.1 rfl (lv_room hW) hd hf) kk
  obtain ⟨r1, g0, -, cell, g1, g2, g3, -⟩ := (hH.1 b _ hb).2.1 (vwCl_lt hc)
  exact ⟨cell, g1, by rw [g3]; rfl, by rw [g2]; exact (X.2.2.2.2.2.1.1.1 ci _ hc).2.1⟩
/-- a method of the class above, by super -/
theorem callSU_ok (X : CX p s m args c D cA B0 nL cc own) (E : EN D cA B0 pa s) {y : MethodName} {C : String} {bytes : ByteArray} {maxL idx ci b : Nat} {ret : Option FieldType} {rm : Room} {av fs : List Value} {T : u_T} {N : Nat} {post : Option Value → AH → Prop}
    (hM : CT la D cA B0 pa y bytes maxL ret rm (.ref b :: av) h post) (hL : LK y bytes maxL av.length ret) (hl : Cond.methodLink own idx y ∈ WT) (hsm : Cond.sameMethod y.cls y.cls y.name y.desc ∈ WT) (hsu : Cond.superclass own y.cls ∈ WT) (hi : Cond.instanceMethod y ∈ WT) (hn : y.name ≠ "<init>") (hR : rm.frames + 1 ≤ R.frames ∧ 8 + (maxL + 11) + rm.locals ≤ R.locals) (hf : k + rm.cells ≤ R.cells ∧ n + rm.slots ≤ R.slots)
    (hc : vwCl[ci]? = some (C, T, N)) (hb : h b = some (ci, fs))
    (hW : (r.map fun v => v.category).sum ≤ 8) (hd : decode cc pc = .ok (.invokespecial idx, 3))
    (kk : ∀ (v : Option Value) (h' : AH), post v h' → WS p la e R s m args below meth c Q D cA B0 nL (pc + 3) l (v.toList ++ r) h' (k + rm.cells) (n + rm.slots)) : WS p la e R s m args below meth c Q D cA B0 nL pc l (av.reverse ++ .ref b :: r) h k n := by
  have g : ∀ w, w ∈ WT → w ∈ WT ∧ ((w.onTables && w.keeps) = true ∨ ∃ ty, w = .arrayClass ty) := fun w h => ⟨h, good_of_word (WT_good _ h)⟩
  have hT : GoodIn WT (va_wsSU own idx y (Cond.code y bytes maxL ret :: WT)) := by
    intro w hw
    simp only [va_wsSU, List.mem_append, List.mem_cons, List.not_mem_nil, or_false] at hw
    rcases hw with (hw | hw | hw | hw | hw) | hw | hw
    · subst hw; exact g _ hl
    · subst hw; exact g _ hsm
    · subst hw; exact g _ hsu
    · subst hw; exact g _ hi
    · subst hw; exact g _ hL.2.1
    · subst hw; exact g _ hL.1
    · exact g _ hw
  refine run_ok (idx := idx) (As := (Value.ref b :: av).toArray) X.2.2.2.2.2.2 (fun H locs ls hH hls => va_runSU (C := C) (X.2.2.2.2.2.1.1.1 ci _ hc).2 (fix_ok X) hM (va_cwSU av.length X.2.2.2.2.1 hT rfl rfl rfl ⟨hn, hL.2.2.2⟩ hR) ⟨PC_blind, ?_, (preS_of X E hH (.ref b :: av)).2⟩ rfl rfl hls.1 rfl (lv_room hW) hd hf) kk
  obtain ⟨r1, g0, -, cell, g1, g2, g3, -⟩ := (hH.1 b _ hb).2.1 (vwCl_lt hc)
  exact ⟨cell, g1, by rw [g3]; rfl, by rw [g2]; exact (X.2.2.2.2.2.1.1.1 ci _ hc).2.1⟩
/-- a new row of bytes -/
theorem newab_ok (X : CX p s m args c D cA B0 nL cc own) {j : Nat} (hd : decode cc pc = .ok (.newarray .byte, 2)) (hj2 : j ≤ 4000) (hr1 : k + 1 ≤ R.cells) (hr2 : n + j ≤ R.slots)
    (kk : ∀ q : Nat, h q = none → B0 ≤ q → WS p la e R s m args below meth c Q D cA B0 nL (pc + 2) l (.ref q :: r) (hup h q (102, (List.replicate j (0 : Int32)).map Value.int)) (k + 1) (n + j)) : WS p la e R s m args below meth c Q D cA B0 nL pc l (vI j :: r) h k n := by
  obtain ⟨hx, hb, hml, hown, hts, hK, hB⟩ := X
  intro H locs ls hH hls
  have hBH : B0 ≤ H.size := Nat.le_trans hB hH.2.1
  have e1 : (nI j).toNatClampNeg = j := nI_clamp (by omega)
  refine va_newaK (atype := .byte) (n := nI j) hx hb (hts _ acByte) rfl hd rfl (nI_pos (by omega)) rfl (by rw [e1]; show j * 1 ≤ 536870912; omega) hr1 (by rw [e1]; exact hr2) rfl fun H1 cA' e2 z1 o1 hAr hNm => ?_
  rw [e1]
  rw [e1] at e2
  refine kk H.size (hH.1.fresh) hBH H1 _ ls ⟨hH.1.push hBH ⟨fun z => absurd z (show ¬ 102 < 100 by omega), fun _ => ⟨(show 102 < 108 by omega), ?_⟩⟩ o1, Nat.le_trans hH.2.1 (by omega), fun x h1 h2 => (o1 x (Nat.lt_of_lt_of_le h1 hH.2.1)).trans (hH.2.2.1 x h1 h2), hH.2.2.2⟩ hls
  have hcA : cA' = cA 102 := by
    obtain ⟨_, _, -, -, k3, -⟩ := hK.2 102 (by decide) (by decide)
    exact Option.some.inj (hNm.symm.trans k3)
  rw [e2, hcA]
  show some (arrV (cA 102) j fun _ => Value.int 0) = some (arrV (cA 102) ((List.replicate j (0 : Int32)).map Value.int).length (vp_V ((List.replicate j (0 : Int32)).map Value.int)))
  rw [List.length_map, List.length_replicate]
  congr 1
  unfold arrV
  congr 2
  funext q
  rw [vp_V_get (v := .int 0)]
  simp
theorem bast_ok (X : CX p s m args c D cA B0 nL cc own) {a j : Nat} {bs : List Int32} {x : Int32} (hd : decode cc pc = .ok (.bastore, 1)) (ha : h a = some (102, bs.map Value.int)) (hj : j < bs.length) (hB' : BF bs) (hj2 : j < 2 ^ 31)
    (kk : ∀ bs' : List Int32, bs'.length = bs.length → BF bs' → WS p la e R s m args below meth c Q D cA B0 nL (pc + 1) l r (hup h a (102, bs'.map Value.int)) k n) : WS p la e R s m args below meth c Q D cA B0 nL pc l (.int x :: vI j :: .ref a :: r) h k n := by
  obtain ⟨hx, hb, hml, hown, hts, hK, hB⟩ := X
  intro H locs ls hH hls
  have hnl : ¬ 102 < 100 := by omega
  obtain ⟨hk7, hc⟩ := (hH.1 a _ ha).2.2 hnl
  have e1 : (nI j).toNatClampNeg = j := nI_clamp hj2
  have hlt : j < (bs.map Value.int).length := by rw [List.length_map]; exact hj
  have hin : ¬ ((nI j : Int32) < 0 ∨ (arrV (cA 102) (bs.map Value.int).length (vp_V (bs.map Value.int))).slots.size ≤ (nI j).toNatClampNeg) := by
    rw [arrV_size, e1]; rintro (q | q)
    · exact nI_pos hj2 q
    · omega
  obtain ⟨y, hy⟩ : ∃ y : Int32, narrow .byte (.int x) = .int y := ⟨_, rfl⟩
  have hfy : fits .byte (.int y) = true := by rw [← hy]; exact pk_fb x
  refine W.bast hx hb hc (hK.arr (k := 102) (by omega) (by omega) _ _) (fun q => by cases q) hin rfl rfl hd (fun H1 e2 e3 e4 => ?_)
  refine kk (bs.set j y) (by rw [List.length_set]) (BF_set hB' j hfy) H1 _ ls ⟨hH.1.put ha ⟨fun z => absurd z hnl, fun _ => ⟨hk7, ?_⟩⟩ e4, hH.2.put e3 e4 (hH.1 a _ ha).1⟩ hls
  rw [e2, e1, hy, arrV_store, setV hlt, List.map_set]
end TX1
