/-! ONE STEP OF A WALK, over the picture of the heap -/
def HS (D : va_G) (cA : Nat → ClassId) (B0 : Nat) (s : State) (h : AH) (H : Heap) (locs : List Loc) : Prop := Rp D cA B0 h H ∧ va_S (fun q : Nat => B0 ≤ q) s.heap H locs
def lget (l : List (Nat × Value)) (i : Nat) : Option Value := match l with
  | [] => none
  | q :: r => if q.1 = i then some q.2 else lget r i
theorem lget_mem : ∀ (l : List (Nat × Value)) {i : Nat} {v : Value}, lget l i = some v → (i, v) ∈ l
  | [], i, v, h => by simp [lget] at h
  | q :: r, i, v, h => by
    unfold lget at h
    split at h
    · rename_i e
      cases h
      subst e
      exact List.mem_cons_self
    · exact List.mem_cons_of_mem _ (lget_mem r h)
def lset1 (l : List (Nat × Value)) (i : Nat) (v : Value) : List (Nat × Value) := (i, v) :: l.filter (fun q => !(q.1 == i) && !(q.1 + 1 == i && q.2.category == 2))
def lset2 (l : List (Nat × Value)) (i : Nat) (v : Value) : List (Nat × Value) := (i, v) :: l.filter (fun q => !(q.1 == i) && (!(q.1 == i + 1) && !(q.1 + 1 == i && q.2.category == 2)))
theorem lget_at {ls : Array Slot} {nL : Nat} {l : List (Nat × Value)} {i : Nat} {v : Value} (hl : lv_has ls nL l) (h : lget l i = some v) : ls[i]? = some (.val v) := hl.2.2 (i, v) (lget_mem l h)
section WS
variable {p : Program} {la : Launch} {e : Env} {R : Room} {s : State} {m : MethodId} {args : Array Value} {below : List Frame} {meth : Method} {c : Code} {Q : State → Prop}
variable {D : va_G} {cA : Nat → ClassId} {B0 nL : Nat} {cc : ByteArray} {own : String}
/-- from here the method comes to its end: program counter, locals, stack, heap, cells and slots made so far -/
def WS (p : Program) (la : Launch) (e : Env) (R : Room) (s : State) (m : MethodId) (args : Array Value) (below : List Frame) (meth : Method) (c : Code) (Q : State → Prop) (D : va_G) (cA : Nat → ClassId) (B0 nL : Nat)
    (pc : Nat) (l : List (Nat × Value)) (st : List Value) (h : AH) (k n : Nat) : Prop :=
  ∀ (H : Heap) (locs : List Loc) (ls : Array Slot), HS D cA B0 s h H locs → lv_has ls nL l → W p la e R s m args below meth c H locs k n Q (F0 m pc ls st)
/-- what stays so all through a method -/
def CX (p : Program) (s : State) (m : MethodId) (args : Array Value) (c : Code) (D : va_G) (cA : Nat → ClassId) (B0 nL : Nat) (cc : ByteArray) (own : String) : Prop :=
  p.tables.exec = Jvm.exec ∧ c.code = cc ∧ c.maxLocals = nL ∧ s.vm.findClass own = some m.cls ∧ (∀ w ∈ WT, w.before args s = true) ∧ KO D cA s ∧ B0 ≤ s.heap.size
/-- frame-only instructions -/
def fst1 (nL : Nat) (i : Instr) (l : List (Nat × Value)) (st : List Value) : Option (Nat × List (Nat × Value) × List Value) :=
  match i with
  | .iconst n => some (1, l, .int (Int32.ofInt n) :: st)
  | .bipush n => some (2, l, .int (Int8.ofInt n).toInt32 :: st)
  | .sipush n => some (3, l, .int (Int16.ofInt n).toInt32 :: st)
  | .lconst n => some (1, l, .long (Int64.ofNat (n : Nat)) :: st)
  | .aconst_null => some (1, l, .null :: st)
  | .iload_n j => match lget l j with | some (.int x) => some (1, l, .int x :: st) | _ => none
  | .iload j => match lget l j with | some (.int x) => some (2, l, .int x :: st) | _ => none
  | .lload_n j => match lget l j with | some (.long x) => some (1, l, .long x :: st) | _ => none
  | .lload j => match lget l j with | some (.long x) => some (2, l, .long x :: st) | _ => none
  | .aload_n j => match lget l j with | some (.ref x) => some (1, l, .ref x :: st) | some .null => some (1, l, .null :: st) | _ => none
  | .aload j => match lget l j with | some (.ref x) => some (2, l, .ref x :: st) | some .null => some (2, l, .null :: st) | _ => none
  | .istore_n j => match st with | .int x :: r => if (j : Nat) < nL then some (1, lset1 l j (.int x), r) else none | _ => none
  | .istore j => match st with | .int x :: r => if j < nL then some (2, lset1 l j (.int x), r) else none | _ => none
  | .lstore_n j => match st with | .long x :: r => if (j : Nat) + 1 < nL then some (1, lset2 l j (.long x), r) else none | _ => none
  | .lstore j => match st with | .long x :: r => if j + 1 < nL then some (2, lset2 l j (.long x), r) else none | _ => none
  | .astore_n j => match st with | .ref x :: r => (if (j : Nat) < nL then some (1, lset1 l j (.ref x), r) else none) | .null :: r => (if (j : Nat) < nL then some (1, lset1 l j .null, r) else none) | _ => none
  | .astore j => match st with | .ref x :: r => (if j < nL then some (2, lset1 l j (.ref x), r) else none) | .null :: r => (if j < nL then some (2, lset1 l j .null, r) else none) | _ => none
  | .iinc j d => match lget l j with | some (.int x) => (if j < nL then some (3, lset1 l j (.int (x + Int32.ofInt d)), st) else none) | _ => none
  | .iadd => match st with | .int y :: .int x :: r => some (1, l, .int (x + y) :: r) | _ => none
  | .isub => match st with | .int y :: .int x :: r => some (1, l, .int (x - y) :: r) | _ => none
  | .imul => match st with | .int y :: .int x :: r => some (1, l, .int (x * y) :: r) | _ => none
  | .iand => match st with | .int y :: .int x :: r => some (1, l, .int (x &&& y) :: r) | _ => none
  | .ior => match st with | .int y :: .int x :: r => some (1, l, .int (x ||| y) :: r) | _ => none
  | .ixor => match st with | .int y :: .int x :: r => some (1, l, .int (x ^^^ y) :: r) | _ => none
  | .ineg => match st with | .int x :: r => some (1, l, .int (-x) :: r) | _ => none
  | .ishl => match st with | .int y :: .int x :: r => some (1, l, .int (x <<< (y &&& 31)) :: r) | _ => none
  | .ishr => match st with | .int y :: .int x :: r => some (1, l, .int (x >>> (y &&& 31)) :: r) | _ => none
  | .iushr => match st with | .int y :: .int x :: r => some (1, l, .int (x.toUInt32 >>> (y.toUInt32 &&& Int32.toUInt32 31)).toInt32 :: r) | _ => none
  | .i2l => match st with | .int x :: r => some (1, l, .long x.toInt64 :: r) | _ => none
  | .l2i => match st with | .long x :: r => some (1, l, .int x.toInt32 :: r) | _ => none
  | .i2c => match st with | .int x :: r => some (1, l, .int (x.toUInt32 % 65536).toInt32 :: r) | _ => none
  | .ladd => match st with | .long y :: .long x :: r => some (1, l, .long (x + y) :: r) | _ => none
  | .lmul => match st with | .long y :: .long x :: r => some (1, l, .long (x * y) :: r) | _ => none
  | .land => match st with | .long y :: .long x :: r => some (1, l, .long (x &&& y) :: r) | _ => none
  | .lor => match st with | .long y :: .long x :: r => some (1, l, .long (x ||| y) :: r) | _ => none
  | .lshl => match st with | .int y :: .long x :: r => some (1, l, .long (x <<< (y.toInt64 &&& 63)) :: r) | _ => none
  | .lshr => match st with | .int y :: .long x :: r => some (1, l, .long (x >>> (y.toInt64 &&& 63)) :: r) | _ => none
  | .idiv => match st with | .int y :: .int x :: r => (if y = 0 then none else some (1, l, .int (x / y) :: r)) | _ => none
  | .irem => match st with | .int y :: .int x :: r => (if y = 0 then none else some (1, l, .int (x - x / y * y) :: r)) | _ => none
  | .dup => match st with | v :: r => (if v.category = 1 then some (1, l, v :: v :: r) else none) | _ => none
  | .dup_x1 => match st with | v :: w :: r => (if v.category = 1 ∧ w.category = 1 then some (1, l, v :: w :: v :: r) else none) | _ => none
  | .pop => match st with | v :: r => (if v.category = 1 then some (1, l, r) else none) | _ => none
  | .pop2 => match st with | v :: r => (if v.category = 2 then some (1, l, r) else none) | _ => none
  | _ => none
set_option maxHeartbeats 4000000 in
theorem fst1_ok (X : CX p s m args c D cA B0 nL cc own) {i : Instr} {len pc k n : Nat} {l l' : List (Nat × Value)} {st st' : List Value} {h : AH} (hd : decode cc pc = .ok (i, len)) (hs : fst1 nL i l st = some (len, l', st'))
    (kk : WS p la e R s m args below meth c Q D cA B0 nL (pc + len) l' st' h k n) : WS p la e R s m args below meth c Q D cA B0 nL pc l st h k n := by
  obtain ⟨hx, hb, -⟩ := X
  intro H locs ls hH hl
  cases i
  case iconst =>
    simp only [fst1] at hs
    repeat' split at hs
    all_goals simp only [Option.some.injEq, Prod.mk.injEq, reduceCtorEq] at hs
    all_goals obtain ⟨rfl, rfl, rfl⟩ := hs
    · exact lv_iconst hx hb hd rfl (kk H locs ls hH hl)
  case bipush =>
    simp only [fst1] at hs
    repeat' split at hs
    all_goals simp only [Option.some.injEq, Prod.mk.injEq, reduceCtorEq] at hs
    all_goals obtain ⟨rfl, rfl, rfl⟩ := hs
    · exact lv_bipush hx hb hd rfl (kk H locs ls hH hl)
  case sipush =>
    simp only [fst1] at hs
    repeat' split at hs
    all_goals simp only [Option.some.injEq, Prod.mk.injEq, reduceCtorEq] at hs
    all_goals obtain ⟨rfl, rfl, rfl⟩ := hs
    · exact lv_sipush hx hb hd rfl (kk H locs ls hH hl)
  case lconst =>
    simp only [fst1] at hs
    repeat' split at hs
    all_goals simp only [Option.some.injEq, Prod.mk.injEq, reduceCtorEq] at hs
    all_goals obtain ⟨rfl, rfl, rfl⟩ := hs
    · exact lv_lconst hx hb hd rfl (kk H locs ls hH hl)
  case aconst_null =>
    simp only [fst1] at hs
    repeat' split at hs
    all_goals simp only [Option.some.injEq, Prod.mk.injEq, reduceCtorEq] at hs
    all_goals obtain ⟨rfl, rfl, rfl⟩ := hs
    · exact lv_null hx hb hd (kk H locs ls hH hl)
  case iload =>
    simp only [fst1] at hs
    repeat' split at hs
    all_goals simp only [Option.some.injEq, Prod.mk.injEq, reduceCtorEq] at hs
    all_goals obtain ⟨rfl, rfl, rfl⟩ := hs
    · exact lv_iload hx hb hd (lget_at hl (by assumption)) (kk H locs ls hH hl)
  case iload_n =>
    simp only [fst1] at hs
    repeat' split at hs
    all_goals simp only [Option.some.injEq, Prod.mk.injEq, reduceCtorEq] at hs
    all_goals obtain ⟨rfl, rfl, rfl⟩ := hs
    · exact lv_iload_n hx hb hd rfl (lget_at hl (by assumption)) (kk H locs ls hH hl)
  case lload =>
    simp only [fst1] at hs
    repeat' split at hs
    all_goals simp only [Option.some.injEq, Prod.mk.injEq, reduceCtorEq] at hs
    all_goals obtain ⟨rfl, rfl, rfl⟩ := hs
    · exact lv_lload hx hb hd (lget_at hl (by assumption)) (kk H locs ls hH hl)
  case lload_n =>
    simp only [fst1] at hs
    repeat' split at hs
    all_goals simp only [Option.some.injEq, Prod.mk.injEq, reduceCtorEq] at hs
    all_goals obtain ⟨rfl, rfl, rfl⟩ := hs
    · exact lv_lload_n hx hb hd rfl (lget_at hl (by assumption)) (kk H locs ls hH hl)
  case aload =>
    simp only [fst1] at hs
    repeat' split at hs
    all_goals simp only [Option.some.injEq, Prod.mk.injEq, reduceCtorEq] at hs
    all_goals obtain ⟨rfl, rfl, rfl⟩ := hs
    · exact lv_aload hx hb hd (lget_at hl (by assumption)) (kk H locs ls hH hl)
    · exact lv_aloadN hx hb hd (lget_at hl (by assumption)) (kk H locs ls hH hl)
  case aload_n =>
    simp only [fst1] at hs
    repeat' split at hs
    all_goals simp only [Option.some.injEq, Prod.mk.injEq, reduceCtorEq] at hs
    all_goals obtain ⟨rfl, rfl, rfl⟩ := hs
    · exact lv_aload_n hx hb hd rfl (lget_at hl (by assumption)) (kk H locs ls hH hl)
    · exact lv_aload_nN hx hb hd rfl (lget_at hl (by assumption)) (kk H locs ls hH hl)
  case istore =>
    simp only [fst1] at hs
    repeat' split at hs
    all_goals simp only [Option.some.injEq, Prod.mk.injEq, reduceCtorEq] at hs
    all_goals obtain ⟨rfl, rfl, rfl⟩ := hs
    · exact lv_istore hx hb hd hl (by assumption) rfl (fun ls' hl' => kk H locs ls' hH hl')
  case istore_n =>
    simp only [fst1] at hs
    repeat' split at hs
    all_goals simp only [Option.some.injEq, Prod.mk.injEq, reduceCtorEq] at hs
    all_goals obtain ⟨rfl, rfl, rfl⟩ := hs
    · exact lv_istore_n hx hb hd rfl hl (by assumption) rfl (fun ls' hl' => kk H locs ls' hH hl')
  case lstore =>
    simp only [fst1] at hs
    repeat' split at hs
    all_goals simp only [Option.some.injEq, Prod.mk.injEq, reduceCtorEq] at hs
    all_goals obtain ⟨rfl, rfl, rfl⟩ := hs
    · exact lv_lstore hx hb hd hl (by assumption) rfl (fun ls' hl' => kk H locs ls' hH hl')
  case lstore_n =>
    simp only [fst1] at hs
    repeat' split at hs
    all_goals simp only [Option.some.injEq, Prod.mk.injEq, reduceCtorEq] at hs
    all_goals obtain ⟨rfl, rfl, rfl⟩ := hs
    · exact lv_lstore_n hx hb hd rfl hl (by assumption) rfl (fun ls' hl' => kk H locs ls' hH hl')
  case astore =>
    simp only [fst1] at hs
    repeat' split at hs
    all_goals simp only [Option.some.injEq, Prod.mk.injEq, reduceCtorEq] at hs
    all_goals obtain ⟨rfl, rfl, rfl⟩ := hs
    · exact lv_astore hx hb hd hl (by assumption) rfl (fun ls' hl' => kk H locs ls' hH hl')
    · exact lv_astoreN hx hb hd hl (by assumption) rfl (fun ls' hl' => kk H locs ls' hH hl')
  case astore_n =>
    simp only [fst1] at hs
    repeat' split at hs
    all_goals simp only [Option.some.injEq, Prod.mk.injEq, reduceCtorEq] at hs
    all_goals obtain ⟨rfl, rfl, rfl⟩ := hs
    · exact lv_astore_n hx hb hd rfl hl (by assumption) rfl (fun ls' hl' => kk H locs ls' hH hl')
    · exact lv_astore_nN hx hb hd rfl hl (by assumption) rfl (fun ls' hl' => kk H locs ls' hH hl')
  case iinc =>
    simp only [fst1] at hs
    repeat' split at hs
    all_goals simp only [Option.some.injEq, Prod.mk.injEq, reduceCtorEq] at hs
    all_goals obtain ⟨rfl, rfl, rfl⟩ := hs
    · rename_i hg hn
      obtain ⟨kx, hkx⟩ := List.getElem?_of_mem (lget_mem l hg)
      exact lv_iinc hx hb hd hl hkx rfl hn rfl (fun ls' hl' => kk H locs ls' hH hl')
  case iadd =>
    simp only [fst1] at hs
    repeat' split at hs
    all_goals simp only [Option.some.injEq, Prod.mk.injEq, reduceCtorEq] at hs
    all_goals obtain ⟨rfl, rfl, rfl⟩ := hs
    · exact lv_iadd hx hb hd (kk H locs ls hH hl)
  case isub =>
    simp only [fst1] at hs
    repeat' split at hs
    all_goals simp only [Option.some.injEq, Prod.mk.injEq, reduceCtorEq] at hs
    all_goals obtain ⟨rfl, rfl, rfl⟩ := hs
    · exact lv_isub hx hb hd (kk H locs ls hH hl)
  case imul =>
    simp only [fst1] at hs
    repeat' split at hs
    all_goals simp only [Option.some.injEq, Prod.mk.injEq, reduceCtorEq] at hs
    all_goals obtain ⟨rfl, rfl, rfl⟩ := hs
    · exact lv_imul hx hb hd (kk H locs ls hH hl)
  case iand =>
    simp only [fst1] at hs
    repeat' split at hs
    all_goals simp only [Option.some.injEq, Prod.mk.injEq, reduceCtorEq] at hs
    all_goals obtain ⟨rfl, rfl, rfl⟩ := hs
    · exact lv_iand hx hb hd (kk H locs ls hH hl)
  case ior =>
    simp only [fst1] at hs
    repeat' split at hs
    all_goals simp only [Option.some.injEq, Prod.mk.injEq, reduceCtorEq] at hs
    all_goals obtain ⟨rfl, rfl, rfl⟩ := hs
    · exact lv_ior hx hb hd (kk H locs ls hH hl)
  case ixor =>
    simp only [fst1] at hs
    repeat' split at hs
    all_goals simp only [Option.some.injEq, Prod.mk.injEq, reduceCtorEq] at hs
    all_goals obtain ⟨rfl, rfl, rfl⟩ := hs
    · exact lv_ixor hx hb hd (kk H locs ls hH hl)
  case ineg =>
    simp only [fst1] at hs
    repeat' split at hs
    all_goals simp only [Option.some.injEq, Prod.mk.injEq, reduceCtorEq] at hs
    all_goals obtain ⟨rfl, rfl, rfl⟩ := hs
    · exact lv_ineg hx hb hd (kk H locs ls hH hl)
  case ishl =>
    simp only [fst1] at hs
    repeat' split at hs
    all_goals simp only [Option.some.injEq, Prod.mk.injEq, reduceCtorEq] at hs
    all_goals obtain ⟨rfl, rfl, rfl⟩ := hs
    · exact lv_ishl hx hb hd (kk H locs ls hH hl)
  case ishr =>
    simp only [fst1] at hs
    repeat' split at hs
    all_goals simp only [Option.some.injEq, Prod.mk.injEq, reduceCtorEq] at hs
    all_goals obtain ⟨rfl, rfl, rfl⟩ := hs
    · exact lv_ishr hx hb hd (kk H locs ls hH hl)
  case ladd =>
    simp only [fst1] at hs
    repeat' split at hs
    all_goals simp only [Option.some.injEq, Prod.mk.injEq, reduceCtorEq] at hs
    all_goals obtain ⟨rfl, rfl, rfl⟩ := hs
    · exact lv_ladd hx hb hd (kk H locs ls hH hl)
  case lmul =>
    simp only [fst1] at hs
    repeat' split at hs
    all_goals simp only [Option.some.injEq, Prod.mk.injEq, reduceCtorEq] at hs
    all_goals obtain ⟨rfl, rfl, rfl⟩ := hs
    · exact lv_lmul hx hb hd (kk H locs ls hH hl)
  case land =>
    simp only [fst1] at hs
    repeat' split at hs
    all_goals simp only [Option.some.injEq, Prod.mk.injEq, reduceCtorEq] at hs
    all_goals obtain ⟨rfl, rfl, rfl⟩ := hs
    · exact lv_land hx hb hd (kk H locs ls hH hl)
  case lor =>
    simp only [fst1] at hs
    repeat' split at hs
    all_goals simp only [Option.some.injEq, Prod.mk.injEq, reduceCtorEq] at hs
    all_goals obtain ⟨rfl, rfl, rfl⟩ := hs
    · exact lv_lor hx hb hd (kk H locs ls hH hl)
  case iushr =>
    simp only [fst1] at hs
    repeat' split at hs
    all_goals simp only [Option.some.injEq, Prod.mk.injEq, reduceCtorEq] at hs
    all_goals obtain ⟨rfl, rfl, rfl⟩ := hs
    · exact lv_iushr hx hb hd rfl (kk H locs ls hH hl)
  case i2l =>
    simp only [fst1] at hs
    repeat' split at hs
    all_goals simp only [Option.some.injEq, Prod.mk.injEq, reduceCtorEq] at hs
    all_goals obtain ⟨rfl, rfl, rfl⟩ := hs
    · exact lv_i2l hx hb hd rfl (kk H locs ls hH hl)
  case l2i =>
    simp only [fst1] at hs
    repeat' split at hs
    all_goals simp only [Option.some.injEq, Prod.mk.injEq, reduceCtorEq] at hs
    all_goals obtain ⟨rfl, rfl, rfl⟩ := hs
    · exact lv_l2i hx hb hd rfl (kk H locs ls hH hl)
  case i2c =>
    simp only [fst1] at hs
    repeat' split at hs
    all_goals simp only [Option.some.injEq, Prod.mk.injEq, reduceCtorEq] at hs
    all_goals obtain ⟨rfl, rfl, rfl⟩ := hs
    · exact lv_i2c hx hb hd rfl (kk H locs ls hH hl)
  case lshl =>
    simp only [fst1] at hs
    repeat' split at hs
    all_goals simp only [Option.some.injEq, Prod.mk.injEq, reduceCtorEq] at hs
    all_goals obtain ⟨rfl, rfl, rfl⟩ := hs
    · exact lv_lshl hx hb hd rfl (kk H locs ls hH hl)
  case lshr =>
    simp only [fst1] at hs
    repeat' split at hs
    all_goals simp only [Option.some.injEq, Prod.mk.injEq, reduceCtorEq] at hs
    all_goals obtain ⟨rfl, rfl, rfl⟩ := hs
    · exact lv_lshr hx hb hd rfl (kk H locs ls hH hl)
  case idiv =>
    simp only [fst1] at hs
    repeat' split at hs
    all_goals simp only [Option.some.injEq, Prod.mk.injEq, reduceCtorEq] at hs
    all_goals obtain ⟨rfl, rfl, rfl⟩ := hs
    · exact lv_idiv hx hb hd (by assumption) (kk H locs ls hH hl)
  case irem =>
    simp only [fst1] at hs
    repeat' split at hs
    all_goals simp only [Option.some.injEq, Prod.mk.injEq, reduceCtorEq] at hs
    all_goals obtain ⟨rfl, rfl, rfl⟩ := hs
    · exact lv_irem hx hb hd (by assumption) (kk H locs ls hH hl)
  case dup =>
    simp only [fst1] at hs
    repeat' split at hs
    all_goals simp only [Option.some.injEq, Prod.mk.injEq, reduceCtorEq] at hs
    all_goals obtain ⟨rfl, rfl, rfl⟩ := hs
    · exact lv_dup hx hb hd (by assumption) (kk H locs ls hH hl)
  case pop =>
    simp only [fst1] at hs
    repeat' split at hs
    all_goals simp only [Option.some.injEq, Prod.mk.injEq, reduceCtorEq] at hs
    all_goals obtain ⟨rfl, rfl, rfl⟩ := hs
    · exact lv_pop hx hb hd (by assumption) (kk H locs ls hH hl)
  case pop2 =>
    simp only [fst1] at hs
    repeat' split at hs
    all_goals simp only [Option.some.injEq, Prod.mk.injEq, reduceCtorEq] at hs
    all_goals obtain ⟨rfl, rfl, rfl⟩ := hs
    · exact lv_pop2_2 hx hb hd (by assumption) (kk H locs ls hH hl)
  case dup_x1 =>
    simp only [fst1] at hs
    repeat' split at hs
    all_goals simp only [Option.some.injEq, Prod.mk.injEq, reduceCtorEq] at hs
    all_goals obtain ⟨rfl, rfl, rfl⟩ := hs
    · rename_i hg
      exact lv_dup_x1 hx hb hd hg.1 hg.2 (kk H locs ls hH hl)
  all_goals simp only [fst1, reduceCtorEq] at hs
end WS
