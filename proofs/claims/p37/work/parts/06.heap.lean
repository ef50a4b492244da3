section U06heap
/-! THE PICTURE OF THE HEAP: at an address a kind and a row of values. Kinds below 100 are the classes of vwCl, from 100 on arrays (100: the reference's rows of numbers, 107: those of the class). -/
abbrev AC : Type := Nat × List Value
abbrev AH : Type := Nat → Option AC
def hup (h : AH) (a : Nat) (c : AC) : AH := fun b => if b = a then some c else h b
theorem hup_self (h : AH) (a : Nat) (c : AC) : hup h a c a = some c := by simp [hup]
theorem hup_ne (h : AH) {a b : Nat} (c : AC) (hb : b ≠ a) : hup h a c b = h b := by simp [hup, hb]
/-- the component of an array of a kind -/
def aty (k : Nat) : FieldType := match k with
  | 100 => .int
  | 101 => .boolean
  | 102 => .byte
  | 103 => .object RX5
  | 104 => .object RX0
  | 105 => .array .int
  | 107 => .int
  | _ => .array (.array .int)
def cnm (t : FieldType) : String := match t with
  | .object C => C
  | t => t.toString
def atC (D : va_G) (cA : Nat → ClassId) (a : Nat) (c : AC) (H : Heap) : Prop :=
  (c.1 < 100 → ∃ r : vw_C, vwCl[c.1]? = some r ∧ r.2.2 = c.2.length ∧ t_OB a (D.1 c.1) r.2.2 (D.2 c.1) H (vp_V c.2)) ∧
  (¬ c.1 < 100 → c.1 < 108 ∧ H[a]? = some (arrV (cA c.1) c.2.length (vp_V c.2)))
def Rp (D : va_G) (cA : Nat → ClassId) (B0 : Nat) (h : AH) (H : Heap) : Prop := ∀ (a : Nat) (c : AC), h a = some c → B0 ≤ a ∧ atC D cA a c H
theorem atC.kept {D : va_G} {cA : Nat → ClassId} {a : Nat} {c : AC} {H H1 : Heap} (h : atC D cA a c H) (hq : H1[a]? = H[a]?) : atC D cA a c H1 := by
  refine ⟨fun hc => ?_, fun hc => ?_⟩
  · obtain ⟨r, h1, h2, h3⟩ := h.1 hc
    exact ⟨r, h1, h2, h3.kept hq⟩
  · obtain ⟨h1, h2⟩ := h.2 hc
    exact ⟨h1, hq.trans h2⟩
theorem atC.lt {D : va_G} {cA : Nat → ClassId} {a : Nat} {c : AC} {H : Heap} (h : atC D cA a c H) : a < H.size := by
  by_cases hc : c.1 < 100
  · obtain ⟨r, -, -, cell, h2, -⟩ := h.1 hc
    exact (Array.getElem?_eq_some_iff.mp h2).1
  · exact (Array.getElem?_eq_some_iff.mp (h.2 hc).2).1
theorem Rp.lt {D : va_G} {cA : Nat → ClassId} {B0 : Nat} {h : AH} {H : Heap} (hR : Rp D cA B0 h H) {a : Nat} {c : AC} (ha : h a = some c) : a < H.size := (hR a c ha).2.lt
theorem Rp.put {D : va_G} {cA : Nat → ClassId} {B0 : Nat} {h : AH} {H H1 : Heap} (hR : Rp D cA B0 h H) {a : Nat} {c0 c1 : AC} (ha : h a = some c0) (h1 : atC D cA a c1 H1) (oq : ∀ q : Nat, q ≠ a → H1[q]? = H[q]?) : Rp D cA B0 (hup h a c1) H1 := by
  intro b c hb
  by_cases e : b = a
  · subst e
    rw [hup_self] at hb
    cases hb
    exact ⟨(hR _ _ ha).1, h1⟩
  · rw [hup_ne _ _ e] at hb
    exact ⟨(hR _ _ hb).1, (hR _ _ hb).2.kept (oq b e)⟩
theorem Rp.push {D : va_G} {cA : Nat → ClassId} {B0 : Nat} {h : AH} {H H1 : Heap} (hR : Rp D cA B0 h H) {c1 : AC} (h0 : B0 ≤ H.size) (h1 : atC D cA H.size c1 H1) (oq : ∀ q : Nat, q < H.size → H1[q]? = H[q]?) : Rp D cA B0 (hup h H.size c1) H1 := by
  intro b c hb
  by_cases e : b = H.size
  · subst e
    rw [hup_self] at hb
    cases hb
    exact ⟨h0, h1⟩
  · rw [hup_ne _ _ e] at hb
    exact ⟨(hR _ _ hb).1, (hR _ _ hb).2.kept (oq b (hR.lt hb))⟩
theorem Rp.fresh {D : va_G} {cA : Nat → ClassId} {B0 : Nat} {h : AH} {H : Heap} (hR : Rp D cA B0 h H) : h H.size = none := by
  cases e : h H.size with
  | none => rfl
  | some c => exact absurd (hR.lt e) (Nat.lt_irrefl _)
/-- what the tables say of the classes and of the arrays' classes -/
def KA (cA : Nat → ClassId) (U : State) : Prop := ∀ k : Nat, 100 ≤ k → k < 108 → ∃ (kA : Class) (comp : ClassId), U.vm.classes[cA k]? = some kA ∧ kA.kind = .array comp (aty k) ∧ U.vm.findClass ("[" ++ (aty k).toString) = some (cA k) ∧ ((aty k).isReference = true → U.vm.findClass (cnm (aty k)) = some comp)
def KO (D : va_G) (cA : Nat → ClassId) (U : State) : Prop := va_K D vwCl [] U ∧ KA cA U
theorem KO.moved {D : va_G} {cA : Nat → ClassId} {u U : State} (hvm : u.vm.Alike U.vm) (h : KO D cA u) : KO D cA U := by
  refine ⟨va_K.moved hvm h.1, fun k h1 h2 => ?_⟩
  obtain ⟨kA, comp, a1, a2, a3, a4⟩ := h.2 k h1 h2
  obtain ⟨k', hk', he⟩ := hvm.2.2 _ _ a1
  exact ⟨k', comp, hk', by rw [he]; exact a2, by rw [hvm.findClass]; exact a3, fun hr => by rw [hvm.findClass]; exact a4 hr⟩
theorem KO.arr {D : va_G} {cA : Nat → ClassId} {U : State} (h : KO D cA U) {k : Nat} (h1 : 100 ≤ k) (h2 : k < 108) : ArrOfT U (cA k) (aty k) := by
  obtain ⟨kA, comp, a1, a2, -⟩ := h.2 k h1 h2
  exact fun n z => ⟨(fun k h => by cases h), kA, a1, comp, a2⟩
theorem vwCl_lt {k : Nat} {r : vw_C} (h : vwCl[k]? = some r) : k < 100 := by
  have h1 : k < vwCl.length := (List.getElem?_eq_some_iff.mp h).1
  have h2 : vwCl.length = 13 := rfl
  omega
end U06heap
section U07ws
/-! ONE STEP OF A WALK, over the picture of the heap -/
def HS (D : va_G) (cA : Nat → ClassId) (B0 : Nat) (s : State) (h : AH) (H : Heap) (locs : List Loc) : Prop := Rp D cA B0 h H ∧ va_S (fun q : Nat => B0 ≤ q) s.heap H locs
def lget (l : List (Nat × Value)) (i : Nat) : Option Value := match l with
  | [] => none
  | q :: r => if q.1 = i then some q.2 else lget r i
theorem lget_mem : ∀ (l : List (Nat × Value)) {i : Nat} {v : Value}, lget l i = some v → (i, v) ∈ l
  | [], i, v, h => by simp [lget] at h
  | q :: r, i, v, h => by
    unfold lget at h
    split at h
    · rename_i e
      cases h
      subst e
      exact List.mem_cons_self
    · exact List.mem_cons_of_mem _ (lget_mem r h)
def lset1 (l : List (Nat × Value)) (i : Nat) (v : Value) : List (Nat × Value) := (i, v) :: l.filter (fun q => !(q.1 == i) && !(q.1 + 1 == i && q.2.category == 2))
def lset2 (l : List (Nat × Value)) (i : Nat) (v : Value) : List (Nat × Value) := (i, v) :: l.filter (fun q => !(q.1 == i) && (!(q.1 == i + 1) && !(q.1 + 1 == i && q.2.category == 2)))
theorem lget_at {ls : Array Slot} {nL : Nat} {l : List (Nat × Value)} {i : Nat} {v : Value} (hl : lv_has ls nL l) (h : lget l i = some v) : ls[i]? = some (.val v) := hl.2.2 (i, v) (lget_mem l h)
section WS
variable {p : Program} {la : Launch} {e : Env} {R : Room} {s : State} {m : MethodId} {args : Array Value} {below : List Frame} {meth : Method} {c : Code} {Q : State → Prop}
variable {D : va_G} {cA : Nat → ClassId} {B0 nL : Nat} {cc : ByteArray} {own : String}
/-- from here the method comes to its end: program counter, locals, stack, heap, cells and slots made so far -/
def WS (p : Program) (la : Launch) (e : Env) (R : Room) (s : State) (m : MethodId) (args : Array Value) (below : List Frame) (meth : Method) (c : Code) (Q : State → Prop) (D : va_G) (cA : Nat → ClassId) (B0 nL : Nat)
    (pc : Nat) (l : List (Nat × Value)) (st : List Value) (h : AH) (k n : Nat) : Prop :=
  ∀ (H : Heap) (locs : List Loc) (ls : Array Slot), HS D cA B0 s h H locs → lv_has ls nL l → W p la e R s m args below meth c H locs k n Q (F0 m pc ls st)
/-- what stays so all through a method -/
def CX (p : Program) (s : State) (m : MethodId) (args : Array Value) (c : Code) (D : va_G) (cA : Nat → ClassId) (B0 nL : Nat) (cc : ByteArray) (own : String) : Prop :=
  p.tables.exec = Jvm.exec ∧ c.code = cc ∧ c.maxLocals = nL ∧ s.vm.findClass own = some m.cls ∧ (∀ w ∈ WT, w.before args s = true) ∧ KO D cA s ∧ B0 ≤ s.heap.size
/-- frame-only instructions -/
def fst1 (nL : Nat) (i : Instr) (l : List (Nat × Value)) (st : List Value) : Option (Nat × List (Nat × Value) × List Value) :=
  match i with
  | .iconst n => some (1, l, .int (Int32.ofInt n) :: st)
  | .bipush n => some (2, l, .int (Int8.ofInt n).toInt32 :: st)
  | .sipush n => some (3, l, .int (Int16.ofInt n).toInt32 :: st)
  | .lconst n => some (1, l, .long (Int64.ofNat (n : Nat)) :: st)
  | .aconst_null => some (1, l, .null :: st)
  | .iload_n j => match lget l j with | some (.int x) => some (1, l, .int x :: st) | _ => none
  | .iload j => match lget l j with | some (.int x) => some (2, l, .int x :: st) | _ => none
  | .lload_n j => match lget l j with | some (.long x) => some (1, l, .long x :: st) | _ => none
  | .lload j => match lget l j with | some (.long x) => some (2, l, .long x :: st) | _ => none
  | .aload_n j => match lget l j with | some (.ref x) => some (1, l, .ref x :: st) | some .null => some (1, l, .null :: st) | _ => none
  | .aload j => match lget l j with | some (.ref x) => some (2, l, .ref x :: st) | some .null => some (2, l, .null :: st) | _ => none
  | .istore_n j => match st with | .int x :: r => if (j : Nat) < nL then some (1, lset1 l j (.int x), r) else none | _ => none
  | .istore j => match st with | .int x :: r => if j < nL then some (2, lset1 l j (.int x), r) else none | _ => none
  | .lstore_n j => match st with | .long x :: r => if (j : Nat) + 1 < nL then some (1, lset2 l j (.long x), r) else none | _ => none
  | .lstore j => match st with | .long x :: r => if j + 1 < nL then some (2, lset2 l j (.long x), r) else none | _ => none
  | .astore_n j => match st with | .ref x :: r => (if (j : Nat) < nL then some (1, lset1 l j (.ref x), r) else none) | .null :: r => (if (j : Nat) < nL then some (1, lset1 l j .null, r) else none) | _ => none
  | .astore j => match st with | .ref x :: r => (if j < nL then some (2, lset1 l j (.ref x), r) else none) | .null :: r => (if j < nL then some (2, lset1 l j .null, r) else none) | _ => none
  | .iinc j d => match lget l j with | some (.int x) => (if j < nL then some (3, lset1 l j (.int (x + Int32.ofInt d)), st) else none) | _ => none
  | .iadd => match st with | .int y :: .int x :: r => some (1, l, .int (x + y) :: r) | _ => none
  | .isub => match st with | .int y :: .int x :: r => some (1, l, .int (x - y) :: r) | _ => none
  | .imul => match st with | .int y :: .int x :: r => some (1, l, .int (x * y) :: r) | _ => none
  | .iand => match st with | .int y :: .int x :: r => some (1, l, .int (x &&& y) :: r) | _ => none
  | .ior => match st with | .int y :: .int x :: r => some (1, l, .int (x ||| y) :: r) | _ => none
  | .ixor => match st with | .int y :: .int x :: r => some (1, l, .int (x ^^^ y) :: r) | _ => none
  | .ineg => match st with | .int x :: r => some (1, l, .int (-x) :: r) | _ => none
  | .ishl => match st with | .int y :: .int x :: r => some (1, l, .int (x <<< (y &&& 31)) :: r) | _ => none
  | .ishr => match st with | .int y :: .int x :: r => some (1, l, .int (x >>> (y &&& 31)) :: r) | _ => none
  | .iushr => match st with | .int y :: .int x :: r => some (1, l, .int (x.toUInt32 >>> (y.toUInt32 &&& Int32.toUInt32 31)).toInt32 :: r) | _ => none
  | .i2l => match st with | .int x :: r => some (1, l, .long x.toInt64 :: r) | _ => none
  | .l2i => match st with | .long x :: r => some (1, l, .int x.toInt32 :: r) | _ => none
  | .i2c => match st with | .int x :: r => some (1, l, .int (x.toUInt32 % 65536).toInt32 :: r) | _ => none
  | .ladd => match st with | .long y :: .long x :: r => some (1, l, .long (x + y) :: r) | _ => none
  | .lmul => match st with | .long y :: .long x :: r => some (1, l, .long (x * y) :: r) | _ => none
  | .land => match st with | .long y :: .long x :: r => some (1, l, .long (x &&& y) :: r) | _ => none
  | .lor => match st with | .long y :: .long x :: r => some (1, l, .long (x ||| y) :: r) | _ => none
  | .lshl => match st with | .int y :: .long x :: r => some (1, l, .long (x <<< (y.toInt64 &&& 63)) :: r) | _ => none
  | .lshr => match st with | .int y :: .long x :: r => some (1, l, .long (x >>> (y.toInt64 &&& 63)) :: r) | _ => none
  | .idiv => match st with | .int y :: .int x :: r => (if y = 0 then none else some (1, l, .int (x / y) :: r)) | _ => none
  | .irem => match st with | .int y :: .int x :: r => (if y = 0 then none else some (1, l, .int (x - x / y * y) :: r)) | _ => none
  | .dup => match st with | v :: r => (if v.category = 1 then some (1, l, v :: v :: r) else none) | _ => none
  | .dup_x1 => match st with | v :: w :: r => (if v.category = 1 ∧ w.category = 1 then some (1, l, v :: w :: v :: r) else none) | _ => none
  | .pop => match st with | v :: r => (if v.category = 1 then some (1, l, r) else none) | _ => none
  | .pop2 => match st with | v :: r => (if v.category = 2 then some (1, l, r) else none) | _ => none
  | _ => none
set_option maxHeartbeats 4000000 in
theorem fst1_ok (X : CX p s m args c D cA B0 nL cc own) {i : Instr} {len pc k n : Nat} {l l' : List (Nat × Value)} {st st' : List Value} {h : AH} (hd : decode cc pc = .ok (i, len)) (hs : fst1 nL i l st = some (len, l', st'))
    (kk : WS p la e R s m args below meth c Q D cA B0 nL (pc + len) l' st' h k n) : WS p la e R s m args below meth c Q D cA B0 nL pc l st h k n := by
  obtain ⟨hx, hb, -⟩ := X
  intro H locs ls hH hl
  cases i
  case iconst =>
    simp only [fst1] at hs
    repeat' split at hs
    all_goals simp only [Option.some.injEq, Prod.mk.injEq, reduceCtorEq] at hs
    all_goals obtain ⟨rfl, rfl, rfl⟩ := hs
    · exact lv_iconst hx hb hd rfl (kk H locs ls hH hl)
  case bipush =>
    simp only [fst1] at hs
    repeat' split at hs
    all_goals simp only [Option.some.injEq, Prod.mk.injEq, reduceCtorEq] at hs
    all_goals obtain ⟨rfl, rfl, rfl⟩ := hs
    · exact lv_bipush hx hb hd rfl (kk H locs ls hH hl)
  case sipush =>
    simp only [fst1] at hs
    repeat' split at hs
    all_goals simp only [Option.some.injEq, Prod.mk.injEq, reduceCtorEq] at hs
    all_goals obtain ⟨rfl, rfl, rfl⟩ := hs
    · exact lv_sipush hx hb hd rfl (kk H locs ls hH hl)
  case lconst =>
    simp only [fst1] at hs
    repeat' split at hs
    all_goals simp only [Option.some.injEq, Prod.mk.injEq, reduceCtorEq] at hs
    all_goals obtain ⟨rfl, rfl, rfl⟩ := hs
    · exact lv_lconst hx hb hd rfl (kk H locs ls hH hl)
  case aconst_null =>
    simp only [fst1] at hs
    repeat' split at hs
    all_goals simp only [Option.some.injEq, Prod.mk.injEq, reduceCtorEq] at hs
    all_goals obtain ⟨rfl, rfl, rfl⟩ := hs
    · exact lv_null hx hb hd (kk H locs ls hH hl)
  case iload =>
    simp only [fst1] at hs
    repeat' split at hs
    all_goals simp only [Option.some.injEq, Prod.mk.injEq, reduceCtorEq] at hs
    all_goals obtain ⟨rfl, rfl, rfl⟩ := hs
    · exact lv_iload hx hb hd (lget_at hl (by assumption)) (kk H locs ls hH hl)
  case iload_n =>
    simp only [fst1] at hs
    repeat' split at hs
    all_goals simp only [Option.some.injEq, Prod.mk.injEq, reduceCtorEq] at hs
    all_goals obtain ⟨rfl, rfl, rfl⟩ := hs
    · exact lv_iload_n hx hb hd rfl (lget_at hl (by assumption)) (kk H locs ls hH hl)
  case lload =>
    simp only [fst1] at hs
    repeat' split at hs
    all_goals simp only [Option.some.injEq, Prod.mk.injEq, reduceCtorEq] at hs
    all_goals obtain ⟨rfl, rfl, rfl⟩ := hs
    · exact lv_lload hx hb hd (lget_at hl (by assumption)) (kk H locs ls hH hl)
  case lload_n =>
    simp only [fst1] at hs
    repeat' split at hs
    all_goals simp only [Option.some.injEq, Prod.mk.injEq, reduceCtorEq] at hs
    all_goals obtain ⟨rfl, rfl, rfl⟩ := hs
    · exact lv_lload_n hx hb hd rfl (lget_at hl (by assumption)) (kk H locs ls hH hl)
  case aload =>
    simp only [fst1] at hs
    repeat' split at hs
    all_goals simp only [Option.some.injEq, Prod.mk.injEq, reduceCtorEq] at hs
    all_goals obtain ⟨rfl, rfl, rfl⟩ := hs
    · exact lv_aload hx hb hd (lget_at hl (by assumption)) (kk H locs ls hH hl)
    · exact lv_aloadN hx hb hd (lget_at hl (by assumption)) (kk H locs ls hH hl)
  case aload_n =>
    simp only [fst1] at hs
    repeat' split at hs
    all_goals simp only [Option.some.injEq, Prod.mk.injEq, reduceCtorEq] at hs
    all_goals obtain ⟨rfl, rfl, rfl⟩ := hs
    · exact lv_aload_n hx hb hd rfl (lget_at hl (by assumption)) (kk H locs ls hH hl)
    · exact lv_aload_nN hx hb hd rfl (lget_at hl (by assumption)) (kk H locs ls hH hl)
  case istore =>
    simp only [fst1] at hs
    repeat' split at hs
    all_goals simp only [Option.some.injEq, Prod.mk.injEq, reduceCtorEq] at hs
    all_goals obtain ⟨rfl, rfl, rfl⟩ := hs
    · exact lv_istore hx hb hd hl (by assumption) rfl (fun ls' hl' => kk H locs ls' hH hl')
  case istore_n =>
    simp only [fst1] at hs
    repeat' split at hs
    all_goals simp only [Option.some.injEq, Prod.mk.injEq, reduceCtorEq] at hs
    all_goals obtain ⟨rfl, rfl, rfl⟩ := hs
    · exact lv_istore_n hx hb hd rfl hl (by assumption) rfl (fun ls' hl' => kk H locs ls' hH hl')
  case lstore =>
    simp only [fst1] at hs
    repeat' split at hs
    all_goals simp only [Option.some.injEq, Prod.mk.injEq, reduceCtorEq] at hs
    all_goals obtain ⟨rfl, rfl, rfl⟩ := hs
    · exact lv_lstore hx hb hd hl (by assumption) rfl (fun ls' hl' => kk H locs ls' hH hl')
  case lstore_n =>
    simp only [fst1] at hs
    repeat' split at hs
    all_goals simp only [Option.some.injEq, Prod.mk.injEq, reduceCtorEq] at hs
    all_goals obtain ⟨rfl, rfl, rfl⟩ := hs
    · exact lv_lstore_n hx hb hd rfl hl (by assumption) rfl (fun ls' hl' => kk H locs ls' hH hl')
  case astore =>
    simp only [fst1] at hs
    repeat' split at hs
    all_goals simp only [Option.some.injEq, Prod.mk.injEq, reduceCtorEq] at hs
    all_goals obtain ⟨rfl, rfl, rfl⟩ := hs
    · exact lv_astore hx hb hd hl (by assumption) rfl (fun ls' hl' => kk H locs ls' hH hl')
    · exact lv_astoreN hx hb hd hl (by assumption) rfl (fun ls' hl' => kk H locs ls' hH hl')
  case astore_n =>
    simp only [fst1] at hs
    repeat' split at hs
    all_goals simp only [Option.some.injEq, Prod.mk.injEq, reduceCtorEq] at hs
    all_goals obtain ⟨rfl, rfl, rfl⟩ := hs
    · exact lv_astore_n hx hb hd rfl hl (by assumption) rfl (fun ls' hl' => kk H locs ls' hH hl')
    · exact lv_astore_nN hx hb hd rfl hl (by assumption) rfl (fun ls' hl' => kk H locs ls' hH hl')
  case iinc =>
    simp only [fst1] at hs
    repeat' split at hs
    all_goals simp only [Option.some.injEq, Prod.mk.injEq, reduceCtorEq] at hs
    all_goals obtain ⟨rfl, rfl, rfl⟩ := hs
    · rename_i hg hn
      obtain ⟨kx, hkx⟩ := List.getElem?_of_mem (lget_mem l hg)
      exact lv_iinc hx hb hd hl hkx rfl hn rfl (fun ls' hl' => kk H locs ls' hH hl')
  case iadd =>
    simp only [fst1] at hs
    repeat' split at hs
    all_goals simp only [Option.some.injEq, Prod.mk.injEq, reduceCtorEq] at hs
    all_goals obtain ⟨rfl, rfl, rfl⟩ := hs
    · exact lv_iadd hx hb hd (kk H locs ls hH hl)
  case isub =>
    simp only [fst1] at hs
    repeat' split at hs
    all_goals simp only [Option.some.injEq, Prod.mk.injEq, reduceCtorEq] at hs
    all_goals obtain ⟨rfl, rfl, rfl⟩ := hs
    · exact lv_isub hx hb hd (kk H locs ls hH hl)
  case imul =>
    simp only [fst1] at hs
    repeat' split at hs
    all_goals simp only [Option.some.injEq, Prod.mk.injEq, reduceCtorEq] at hs
    all_goals obtain ⟨rfl, rfl, rfl⟩ := hs
    · exact lv_imul hx hb hd (kk H locs ls hH hl)
  case iand =>
    simp only [fst1] at hs
    repeat' split at hs
    all_goals simp only [Option.some.injEq, Prod.mk.injEq, reduceCtorEq] at hs
    all_goals obtain ⟨rfl, rfl, rfl⟩ := hs
    · exact lv_iand hx hb hd (kk H locs ls hH hl)
  case ior =>
    simp only [fst1] at hs
    repeat' split at hs
    all_goals simp only [Option.some.injEq, Prod.mk.injEq, reduceCtorEq] at hs
    all_goals obtain ⟨rfl, rfl, rfl⟩ := hs
    · exact lv_ior hx hb hd (kk H locs ls hH hl)
  case ixor =>
    simp only [fst1] at hs
    repeat' split at hs
    all_goals simp only [Option.some.injEq, Prod.mk.injEq, reduceCtorEq] at hs
    all_goals obtain ⟨rfl, rfl, rfl⟩ := hs
    · exact lv_ixor hx hb hd (kk H locs ls hH hl)
  case ineg =>
    simp only [fst1] at hs
    repeat' split at hs
    all_goals simp only [Option.some.injEq, Prod.mk.injEq, reduceCtorEq] at hs
    all_goals obtain ⟨rfl, rfl, rfl⟩ := hs
    · exact lv_ineg hx hb hd (kk H locs ls hH hl)
  case ishl =>
    simp only [fst1] at hs
    repeat' split at hs
    all_goals simp only [Option.some.injEq, Prod.mk.injEq, reduceCtorEq] at hs
    all_goals obtain ⟨rfl, rfl, rfl⟩ := hs
    · exact lv_ishl hx hb hd (kk H locs ls hH hl)
  case ishr =>
    simp only [fst1] at hs
    repeat' split at hs
    all_goals simp only [Option.some.injEq, Prod.mk.injEq, reduceCtorEq] at hs
    all_goals obtain ⟨rfl, rfl, rfl⟩ := hs
    · exact lv_ishr hx hb hd (kk H locs ls hH hl)
  case ladd =>
    simp only [fst1] at hs
    repeat' split at hs
    all_goals simp only [Option.some.injEq, Prod.mk.injEq, reduceCtorEq] at hs
    all_goals obtain ⟨rfl, rfl, rfl⟩ := hs
    · exact lv_ladd hx hb hd (kk H locs ls hH hl)
  case lmul =>
    simp only [fst1] at hs
    repeat' split at hs
    all_goals simp only [Option.some.injEq, Prod.mk.injEq, reduceCtorEq] at hs
    all_goals obtain ⟨rfl, rfl, rfl⟩ := hs
    · exact lv_lmul hx hb hd (kk H locs ls hH hl)
  case land =>
    simp only [fst1] at hs
    repeat' split at hs
    all_goals simp only [Option.some.injEq, Prod.mk.injEq, reduceCtorEq] at hs
    all_goals obtain ⟨rfl, rfl, rfl⟩ := hs
    · exact lv_land hx hb hd (kk H locs ls hH hl)
  case lor =>
    simp only [fst1] at hs
    repeat' split at hs
    all_goals simp only [Option.some.injEq, Prod.mk.injEq, reduceCtorEq] at hs
    all_goals obtain ⟨rfl, rfl, rfl⟩ := hs
    · exact lv_lor hx hb hd (kk H locs ls hH hl)
  case iushr =>
    simp only [fst1] at hs
    repeat' split at hs
    all_goals simp only [Option.some.injEq, Prod.mk.injEq, reduceCtorEq] at hs
    all_goals obtain ⟨rfl, rfl, rfl⟩ := hs
    · exact lv_iushr hx hb hd rfl (kk H locs ls hH hl)
  case i2l =>
    simp only [fst1] at hs
    repeat' split at hs
    all_goals simp only [Option.some.injEq, Prod.mk.injEq, reduceCtorEq] at hs
    all_goals obtain ⟨rfl, rfl, rfl⟩ := hs
    · exact lv_i2l hx hb hd rfl (kk H locs ls hH hl)
  case l2i =>
    simp only [fst1] at hs
    repeat' split at hs
    all_goals simp only [Option.some.injEq, Prod.mk.injEq, reduceCtorEq] at hs
    all_goals obtain ⟨rfl, rfl, rfl⟩ := hs
    · exact lv_l2i hx hb hd rfl (kk H locs ls hH hl)
  case i2c =>
    simp only [fst1] at hs
    repeat' split at hs
    all_goals simp only [Option.some.injEq, Prod.mk.injEq, reduceCtorEq] at hs
    all_goals obtain ⟨rfl, rfl, rfl⟩ := hs
    · exact lv_i2c hx hb hd rfl (kk H locs ls hH hl)
  case lshl =>
    simp only [fst1] at hs
    repeat' split at hs
    all_goals simp only [Option.some.injEq, Prod.mk.injEq, reduceCtorEq] at hs
    all_goals obtain ⟨rfl, rfl, rfl⟩ := hs
    · exact lv_lshl hx hb hd rfl (kk H locs ls hH hl)
  case lshr =>
    simp only [fst1] at hs
    repeat' split at hs
    all_goals simp only [Option.some.injEq, Prod.mk.injEq, reduceCtorEq] at hs
    all_goals obtain ⟨rfl, rfl, rfl⟩ := hs
    · exact lv_lshr hx hb hd rfl (kk H locs ls hH hl)
  case idiv =>
    simp only [fst1] at hs
    repeat' split at hs
    all_goals simp only [Option.some.injEq, Prod.mk.injEq, reduceCtorEq] at hs
    all_goals obtain ⟨rfl, rfl, rfl⟩ := hs
    · exact lv_idiv hx hb hd (by assumption) (kk H locs ls hH hl)
  case irem =>
    simp only [fst1] at hs
    repeat' split at hs
    all_goals simp only [Option.some.injEq, Prod.mk.injEq, reduceCtorEq] at hs
    all_goals obtain ⟨rfl, rfl, rfl⟩ := hs
    · exact lv_irem hx hb hd (by assumption) (kk H locs ls hH hl)
  case dup =>
    simp only [fst1] at hs
    repeat' split at hs
    all_goals simp only [Option.some.injEq, Prod.mk.injEq, reduceCtorEq] at hs
    all_goals obtain ⟨rfl, rfl, rfl⟩ := hs
    · exact lv_dup hx hb hd (by assumption) (kk H locs ls hH hl)
  case pop =>
    simp only [fst1] at hs
    repeat' split at hs
    all_goals simp only [Option.some.injEq, Prod.mk.injEq, reduceCtorEq] at hs
    all_goals obtain ⟨rfl, rfl, rfl⟩ := hs
    · exact lv_pop hx hb hd (by assumption) (kk H locs ls hH hl)
  case pop2 =>
    simp only [fst1] at hs
    repeat' split at hs
    all_goals simp only [Option.some.injEq, Prod.mk.injEq, reduceCtorEq] at hs
    all_goals obtain ⟨rfl, rfl, rfl⟩ := hs
    · exact lv_pop2_2 hx hb hd (by assumption) (kk H locs ls hH hl)
  case dup_x1 =>
    simp only [fst1] at hs
    repeat' split at hs
    all_goals simp only [Option.some.injEq, Prod.mk.injEq, reduceCtorEq] at hs
    all_goals obtain ⟨rfl, rfl, rfl⟩ := hs
    · rename_i hg
      exact lv_dup_x1 hx hb hd hg.1 hg.2 (kk H locs ls hH hl)
  all_goals simp only [fst1, reduceCtorEq] at hs
end WS
end U07ws
section U08ops
/-! THE SINGLE STEPS: branches, fields, arrays, making -/
/-- a field by its pool number: its class's place in vwCl, its own place -/
def FL (own : String) (idx ci kf : Nat) : Prop := ∃ (C : String) (T : u_T) (N : Nat) (ty : Nat → FieldType), vwCl[ci]? = some (C, T, N) ∧ (∀ w ∈ u_ws C T N, w ∈ WT) ∧ kf < N ∧ Cond.fieldLink own idx C (T kf).2.1 (T kf).2.2.1 ∈ WT ∧ (T kf).1 = C ∧
  (∀ k, k < N → parseFieldDescriptor (T k).2.2.1 = some (ty k)) ∧ (∀ a, a < N → ∀ b, b < N → a ≠ b → (T a).2.1 ≠ (T b).2.1)
/-- the type of a field, and whether it is final -/
def FT (ci kf : Nat) (ty : FieldType) (fin : Bool) : Prop := ∃ (C : String) (T : u_T) (N : Nat), vwCl[ci]? = some (C, T, N) ∧ parseFieldDescriptor (T kf).2.2.1 = some ty ∧ (T kf).2.2.2 = fin
/-- a branch: when, by how much, what stays on the stack -/
def cbr (i : Instr) (st : List Value) : Option (Prop × Int × List Value) := match i with
  | .goto off => some (True, off, st)
  | .ifCond .eq off => match st with | .int x :: r => some (x = 0, off, r) | _ => none
  | .ifCond .ne off => match st with | .int x :: r => some (¬ x = 0, off, r) | _ => none
  | .ifCond .lt off => match st with | .int x :: r => some (x < 0, off, r) | _ => none
  | .ifCond .ge off => match st with | .int x :: r => some (0 ≤ x, off, r) | _ => none
  | .ifCond .gt off => match st with | .int x :: r => some (0 < x, off, r) | _ => none
  | .ifCond .le off => match st with | .int x :: r => some (x ≤ 0, off, r) | _ => none
  | .if_icmp .eq off => match st with | .int y :: .int x :: r => some (x = y, off, r) | _ => none
  | .if_icmp .ne off => match st with | .int y :: .int x :: r => some (¬ x = y, off, r) | _ => none
  | .if_icmp .lt off => match st with | .int y :: .int x :: r => some (x < y, off, r) | _ => none
  | .if_icmp .ge off => match st with | .int y :: .int x :: r => some (y ≤ x, off, r) | _ => none
  | .if_icmp .gt off => match st with | .int y :: .int x :: r => some (y < x, off, r) | _ => none
  | .if_icmp .le off => match st with | .int y :: .int x :: r => some (x ≤ y, off, r) | _ => none
  | .if_acmp .eq off => match st with | .ref y :: .ref x :: r => some (x = y, off, r) | _ => none
  | .if_acmp .ne off => match st with | .ref y :: .ref x :: r => some (¬ x = y, off, r) | _ => none
  | .ifnull off => match st with | .ref _ :: r => some (False, off, r) | .null :: r => some (True, off, r) | _ => none
  | .ifnonnull off => match st with | .ref _ :: r => some (True, off, r) | .null :: r => some (False, off, r) | _ => none
  | _ => none
section OPS
variable {p : Program} {la : Launch} {e : Env} {R : Room} {s : State} {m : MethodId} {args : Array Value} {below : List Frame} {meth : Method} {c : Code} {Q : State → Prop}
variable {D : va_G} {cA : Nat → ClassId} {B0 nL : Nat} {cc : ByteArray} {own : String} {pc k n : Nat} {l : List (Nat × Value)} {r : List Value} {h : AH}
set_option maxHeartbeats 4000000 in
theorem br_ok (X : CX p s m args c D cA B0 nL cc own) {i : Instr} {st : List Value} {P : Prop} {off : Int} {tgt : Nat} (hd : decode cc pc = .ok (i, 3)) (hs : cbr i st = some (P, off, r)) (ht : (pc : Int) + off = (tgt : Int))
    (kt : P → WS p la e R s m args below meth c Q D cA B0 nL tgt l r h k n) (kf : ¬ P → WS p la e R s m args below meth c Q D cA B0 nL (pc + 3) l r h k n) : WS p la e R s m args below meth c Q D cA B0 nL pc l st h k n := by
  obtain ⟨hx, hb, -⟩ := X
  intro H locs ls hH hl
  cases i
  case goto =>
    simp only [cbr, Option.some.injEq, Prod.mk.injEq] at hs
    obtain ⟨rfl, rfl, rfl⟩ := hs
    exact lv_goto hx hb hd ht (kt trivial H locs ls hH hl)
  case ifCond cnd o =>
    cases cnd <;> simp only [cbr] at hs <;> split at hs <;> simp only [Option.some.injEq, Prod.mk.injEq, reduceCtorEq] at hs <;> obtain ⟨rfl, rfl, rfl⟩ := hs
    · exact lv_if_eq hx hb hd ht (fun q => kt q H locs ls hH hl) (fun q => kf q H locs ls hH hl)
    · exact lv_if_ne hx hb hd ht (fun q => kt q H locs ls hH hl) (fun q => kf (fun z => z q) H locs ls hH hl)
    · exact lv_if_lt hx hb hd ht (fun q => kt q H locs ls hH hl) (fun q => kf q H locs ls hH hl)
    · exact lv_if_ge hx hb hd ht (fun q => kt q H locs ls hH hl) (fun q => kf q H locs ls hH hl)
    · exact lv_if_gt hx hb hd ht (fun q => kt q H locs ls hH hl) (fun q => kf q H locs ls hH hl)
    · exact lv_if_le hx hb hd ht (fun q => kt q H locs ls hH hl) (fun q => kf q H locs ls hH hl)
  case if_icmp cnd o =>
    cases cnd <;> simp only [cbr] at hs <;> split at hs <;> simp only [Option.some.injEq, Prod.mk.injEq, reduceCtorEq] at hs <;> obtain ⟨rfl, rfl, rfl⟩ := hs
    · exact lv_icmp_eq hx hb hd ht (fun q => kt q H locs ls hH hl) (fun q => kf q H locs ls hH hl)
    · exact lv_icmp_ne hx hb hd ht (fun q => kt q H locs ls hH hl) (fun q => kf (fun z => z q) H locs ls hH hl)
    · exact lv_icmp_lt hx hb hd ht (fun q => kt q H locs ls hH hl) (fun q => kf q H locs ls hH hl)
    · exact lv_icmp_ge hx hb hd ht (fun q => kt q H locs ls hH hl) (fun q => kf q H locs ls hH hl)
    · exact lv_icmp_gt hx hb hd ht (fun q => kt q H locs ls hH hl) (fun q => kf q H locs ls hH hl)
    · exact lv_icmp_le hx hb hd ht (fun q => kt q H locs ls hH hl) (fun q => kf q H locs ls hH hl)
  case if_acmp cnd o =>
    cases cnd <;> simp only [cbr] at hs <;> split at hs <;> simp only [Option.some.injEq, Prod.mk.injEq, reduceCtorEq] at hs <;> obtain ⟨rfl, rfl, rfl⟩ := hs
    · rename_i y x _
      exact lv_acmp_eq (rx := some x) (ry := some y) hx hb hd ht (fun q => kt (Option.some.inj q) H locs ls hH hl) (fun q => kf (fun z => q (congrArg some z)) H locs ls hH hl)
    · rename_i y x _
      exact lv_acmp_ne (rx := some x) (ry := some y) hx hb hd ht (fun q => kt (fun z => q (congrArg some z)) H locs ls hH hl) (fun q => kf (fun z => z (Option.some.inj q)) H locs ls hH hl)
  case ifnull =>
    simp only [cbr] at hs
    split at hs <;> simp only [Option.some.injEq, Prod.mk.injEq, reduceCtorEq] at hs <;> obtain ⟨rfl, rfl, rfl⟩ := hs
    · exact lv_ifnull hx hb hd (kf (fun z => z) H locs ls hH hl)
    · exact lv_ifnullN hx hb hd ht (kt trivial H locs ls hH hl)
  case ifnonnull =>
    simp only [cbr] at hs
    split at hs <;> simp only [Option.some.injEq, Prod.mk.injEq, reduceCtorEq] at hs <;> obtain ⟨rfl, rfl, rfl⟩ := hs
    · exact lv_ifnonnull hx hb hd ht (kt trivial H locs ls hH hl)
    · exact lv_ifnonnullN hx hb hd (kf (fun z => z) H locs ls hH hl)
  all_goals simp only [cbr, reduceCtorEq] at hs
theorem getf_ok (X : CX p s m args c D cA B0 nL cc own) {idx ci kf a : Nat} {fs : List Value} {v : Value} (hF : FL own idx ci kf) (hd : decode cc pc = .ok (.getfield idx, 3)) (ha : h a = some (ci, fs)) (hv : fs[kf]? = some v)
    (kk : WS p la e R s m args below meth c Q D cA B0 nL (pc + 3) l (v :: r) h k n) : WS p la e R s m args below meth c Q D cA B0 nL pc l (.ref a :: r) h k n := by
  obtain ⟨hx, hb, hml, hown, hts, hK, hB⟩ := X
  obtain ⟨C, T, N, ty, hc, hin, hk, hl, hC, hty, hnm⟩ := hF
  intro H locs ls hH hls
  obtain ⟨r0, h1, h2, cell, q1, q2, q3, q4⟩ := (hH.1 a _ ha).2.1 (vwCl_lt hc)
  have hr : r0 = (C, T, N) := Option.some.inj (h1.symm.trans hc)
  subst hr
  obtain ⟨hS, hfc, kC, hkC, hkind⟩ := hK.1.1 ci _ hc
  obtain ⟨cf, kf0, fi, f, hi, hsl⟩ := hS kf hk
  refine W.getf hx hb hown (hts _ hl) (by rw [← hC]; exact hi) (u_facts hfc hkC (u_lays hts hin hk) hi).1 q1 (by rw [q3]; exact fun h => by cases h) (v := v) ?_ rfl rfl hd (kk H locs ls hH hls)
  rw [hsl, q4 kf hk]
  simp [vp_V, hv]
theorem putf_ok (X : CX p s m args c D cA B0 nL cc own) {idx ci kf a : Nat} {fs : List Value} {v : Value} {ty : FieldType} {fin : Bool} (hF : FL own idx ci kf) (hT : FT ci kf ty fin) (hfin : fin = false ∨ (meth.name = "<init>" ∧ ∃ C T N, vwCl[ci]? = some (C, T, N) ∧ own = C))
    (hn : narrow ty v = v) (hfit : fits ty v = true) (hd : decode cc pc = .ok (.putfield idx, 3)) (ha : h a = some (ci, fs)) (hl0 : kf < fs.length)
    (kk : WS p la e R s m args below meth c Q D cA B0 nL (pc + 3) l r (hup h a (ci, fs.set kf v)) k n) : WS p la e R s m args below meth c Q D cA B0 nL pc l (v :: .ref a :: r) h k n := by
  obtain ⟨hx, hb, hml, hown, hts, hK, hB⟩ := X
  obtain ⟨C, T, N, ty0, hc, hin, hk, hl, hC, hty, hnm⟩ := hF
  obtain ⟨C', T', N', hc', hdt, hfn⟩ := hT
  cases hc.symm.trans hc'
  intro H locs ls hH hls
  obtain ⟨r0, h1, h2, cell, q1, q2, q3, q4⟩ := (hH.1 a _ ha).2.1 (vwCl_lt hc)
  have hr : r0 = (C, T, N) := Option.some.inj (h1.symm.trans hc)
  subst hr
  have hap := va_apart (own := own) hts hin ty0 hty hnm hK.1 hc
  obtain ⟨hS, hfc, kC, hkC, hkind⟩ := hK.1.1 ci _ hc
  obtain ⟨cf, kf0, fi, f, hi, hsl⟩ := hS kf hk
  have hlay := hts _ (hin _ (u_in_lay hk))
  have hst := (u_facts hfc hkC (u_lays hts hin hk) hi).1
  have fin' : ∀ (H1 : Heap), H1[a]? = some (cell.setSlot f.slot v) → H1.size = H.size → (∀ q, q ≠ a → H1[q]? = H[q]?) → W p la e R s m args below meth c H1 (locs ++ [⟨a, f.slot⟩]) k n Q (F0 m (pc + 3) ls r) := by
    intro H1 e1 e2 e3
    rw [hsl] at e1 ⊢
    refine kk H1 _ ls ⟨hH.1.put ha ⟨fun _ => ⟨_, hc, by simpa using h2, t_OB.to (V := updV (vp_V fs) kf v) ⟨_, e1, q2, q3, t_set q4 hap hk v⟩ (fun j _ => vp_updV_set hl0 v j)⟩, fun z => absurd (vwCl_lt hc) z⟩ e3, hH.2.put e2 e3 (hH.1 a _ ha).1⟩ hls
  unfold u_lay at hlay
  cases fin with
  | false =>
    rw [if_neg (by rw [hfn]; decide)] at hlay
    have h6 := u_store hfc hkC hkind hlay hi hdt hn hfit
    exact W.putK hx hb (f := f) ⟨hown, hts _ hl, ⟨_, _, _, by rw [← hC]; exact hi⟩, hst⟩ (by rw [q2]; exact h6) q1 q3 (by rw [hsl]; exact k2_hasslot (q4 kf hk)) rfl rfl hd fin'
  | true =>
    obtain ⟨hin2, C9, T9, N9, hc9, hown9⟩ := hfin.resolve_left (by decide)
    cases hc.symm.trans hc9
    rw [if_pos hfn] at hlay
    have hcf : m.cls = cf := by
      obtain ⟨_, _, c', _, _, _, -, -, hf', -, -, -, hown2, -⟩ := Cond.laysFinal_spec hlay
      have e1 : c' = cf := by have := hi.symm.trans hf'; simp at this; exact this.1.symm
      rw [hC, ← hown9] at hown2
      rw [← e1]; exact Option.some.inj (hown.symm.trans hown2)
    have h6 := u_fits hfc hkC hkind (Or.inr hlay) hi hdt hn hfit
    exact W.putFinK hx hb hown (hts _ hl) (by rw [← hC]; exact hi) hst hcf hin2 (by rw [q2]; exact h6) q1 q3 (by rw [hsl]; exact k2_hasslot (q4 kf hk)) rfl rfl hd fin'
end OPS
end U08ops
section U09arr
/-! THE SINGLE STEPS: fields of nest mates, arrays, making -/
def isNest : Cond → Bool
  | .methodLinkNest _ _ _ _ => true
  | .fieldLinkNest _ _ _ _ _ _ => true
  | .declares _ => true
  | .castable _ _ => true
  | _ => false
/-- a field of a nest mate by its pool number -/
def FLN (own : String) (idx ci kf : Nat) : Prop := ∃ (C : String) (T : u_T) (N : Nat) (host : String), vwCl[ci]? = some (C, T, N) ∧ (∀ w ∈ u_ws C T N, w ∈ WT) ∧ kf < N ∧ Cond.fieldLinkNest own idx C (T kf).2.1 (T kf).2.2.1 host ∈ lw_tbl ∧ (T kf).1 = C
/-- an array of the right component, indices in it -/
def inA (i : Int32) (vs : List Value) (v : Value) : Prop := ¬ i < 0 ∧ vs[i.toNatClampNeg]? = some v
def isLd (i : Instr) (kd : Nat) : Prop := (i = .iaload ∧ kd = 100) ∨ (i = .baload ∧ kd = 101) ∨ (i = .aaload ∧ 103 ≤ kd ∧ kd < 107)
theorem vp_V_get {vs : List Value} {j : Nat} {v : Value} (h : vs[j]? = some v) : vp_V vs j = v := by simp [vp_V, h]
theorem aty103 : aty 103 = .object RX5 := rfl
theorem aty104 : aty 104 = .object RX0 := rfl
theorem aty105 : aty 105 = .array .int := rfl
theorem aty106 : aty 106 = .array (.array .int) := rfl
section ARR
variable {p : Program} {la : Launch} {e : Env} {R : Room} {s : State} {m : MethodId} {args : Array Value} {below : List Frame} {meth : Method} {c : Code} {Q : State → Prop}
variable {D : va_G} {cA : Nat → ClassId} {B0 nL : Nat} {cc : ByteArray} {own : String} {pc k n : Nat} {l : List (Nat × Value)} {r : List Value} {h : AH}
theorem ald_ok (X : CX p s m args c D cA B0 nL cc own) {i : Instr} {kd a : Nat} {vs : List Value} {j : Int32} {v : Value} (hi : isLd i kd) (hd : decode cc pc = .ok (i, 1)) (ha : h a = some (kd, vs)) (hj : inA j vs v)
    (kk : WS p la e R s m args below meth c Q D cA B0 nL (pc + 1) l (v :: r) h k n) : WS p la e R s m args below meth c Q D cA B0 nL pc l (.int j :: .ref a :: r) h k n := by
  obtain ⟨hx, hb, hml, hown, hts, hK, hB⟩ := X
  intro H locs ls hH hls
  have hnl : ¬ kd < 100 := by rcases hi with ⟨-, q⟩ | ⟨-, q⟩ | ⟨-, q⟩ <;> omega
  obtain ⟨hk7, hc⟩ := (hH.1 a _ ha).2.2 hnl
  have hlt : j.toNatClampNeg < vs.length := (List.getElem?_eq_some_iff.mp hj.2).1
  have hin : ¬ (j < 0 ∨ (arrV (cA kd) vs.length (vp_V vs)).slots.size ≤ j.toNatClampNeg) := by
    rw [arrV_size]; rintro (q | q)
    · exact hj.1 q
    · omega
  have hv : (arrV (cA kd) vs.length (vp_V vs)).slots[j.toNatClampNeg]? = some v := by rw [arrV_read _ _ hlt, vp_V_get hj.2]
  have hA := hK.arr (k := kd) (by omega) hk7 vs.length (vp_V vs)
  rcases hi with ⟨rfl, rfl⟩ | ⟨rfl, rfl⟩ | ⟨rfl, h3⟩
  · exact W.iald hx hb hc hA (fun q => by cases q) hin hv rfl rfl hd (kk H locs ls hH hls)
  · exact W.zald hx hb hc hA (fun q => by cases q) hin hv rfl rfl hd (kk H locs ls hH hls)
  · refine W.aald hx hb hc hA ?_ (fun q => by cases q) hin hv rfl rfl hd (kk H locs ls hH hls)
    have h4 : kd = 103 ∨ kd = 104 ∨ kd = 105 ∨ kd = 106 := by omega
    rcases h4 with rfl | rfl | rfl | rfl <;> rfl
theorem alen_ok (X : CX p s m args c D cA B0 nL cc own) {kd a : Nat} {vs : List Value} (hkd : 100 ≤ kd) (hd : decode cc pc = .ok (.arraylength, 1)) (ha : h a = some (kd, vs))
    (kk : WS p la e R s m args below meth c Q D cA B0 nL (pc + 1) l (.int (nI vs.length) :: r) h k n) : WS p la e R s m args below meth c Q D cA B0 nL pc l (.ref a :: r) h k n := by
  obtain ⟨hx, hb, hml, hown, hts, hK, hB⟩ := X
  intro H locs ls hH hls
  obtain ⟨hk7, hc⟩ := (hH.1 a _ ha).2.2 (by show ¬ kd < 100; omega)
  exact W.alen hx hb hc (hK.arr (k := kd) (by omega) hk7 vs.length (vp_V vs)) (by rw [arrV_size]; rfl) rfl rfl hd (kk H locs ls hH hls)
theorem setV {vs : List Value} {j : Nat} (hj : j < vs.length) (x : Value) (cI : ClassId) : arrV cI vs.length (updV (vp_V vs) j x) = arrV cI (vs.set j x).length (vp_V (vs.set j x)) := by
  rw [List.length_set]
  congr 1
  funext q
  exact vp_updV_set hj x q
/-- a store: int arrays, boolean arrays (0 or 1), arrays of references (null, or a thing of the component's class) -/
def isSt (i : Instr) (kd : Nat) (v : Value) (h : AH) : Prop := (i = .iastore ∧ kd = 100 ∧ ∃ x, v = .int x) ∨ (i = .bastore ∧ kd = 101 ∧ (v = .int 0 ∨ v = .int 1)) ∨
  (i = .aastore ∧ kd = 103 ∧ ∃ q fs, v = .ref q ∧ h q = some (7, fs)) ∨ (i = .aastore ∧ kd = 104 ∧ ∃ q fs, v = .ref q ∧ h q = some (2, fs)) ∨
  (i = .aastore ∧ kd = 105 ∧ ∃ q fs, v = .ref q ∧ h q = some (100, fs)) ∨ (i = .aastore ∧ kd = 106 ∧ ∃ q fs, v = .ref q ∧ h q = some (105, fs))
set_option maxHeartbeats 2000000 in
theorem ast_ok (X : CX p s m args c D cA B0 nL cc own) {i : Instr} {kd a : Nat} {vs : List Value} {j : Int32} {v : Value} (hi : isSt i kd v h) (hd : decode cc pc = .ok (i, 1)) (ha : h a = some (kd, vs)) (hj : ¬ j < 0 ∧ j.toNatClampNeg < vs.length)
    (kk : WS p la e R s m args below meth c Q D cA B0 nL (pc + 1) l r (hup h a (kd, vs.set j.toNatClampNeg v)) k n) : WS p la e R s m args below meth c Q D cA B0 nL pc l (v :: .int j :: .ref a :: r) h k n := by
  obtain ⟨hx, hb, hml, hown, hts, hK, hB⟩ := X
  intro H locs ls hH hls
  have hnl : ¬ kd < 100 := by rcases hi with ⟨-, q, -⟩ | ⟨-, q, -⟩ | ⟨-, q, -⟩ | ⟨-, q, -⟩ | ⟨-, q, -⟩ | ⟨-, q, -⟩ <;> omega
  obtain ⟨hk7, hc⟩ := (hH.1 a _ ha).2.2 hnl
  have hlt : j.toNatClampNeg < vs.length := hj.2
  have hin : ¬ (j < 0 ∨ (arrV (cA kd) vs.length (vp_V vs)).slots.size ≤ j.toNatClampNeg) := by
    rw [arrV_size]; rintro (q | q)
    · exact hj.1 q
    · omega
  have hA := hK.arr (k := kd) (by omega) hk7 vs.length (vp_V vs)
  have fin' : ∀ (H1 : Heap), H1[a]? = some ((arrV (cA kd) vs.length (vp_V vs)).setSlot j.toNatClampNeg v) → H1.size = H.size → (∀ q, q ≠ a → H1[q]? = H[q]?) → W p la e R s m args below meth c H1 (locs ++ [⟨a, j.toNatClampNeg⟩]) k n Q (F0 m (pc + 1) ls r) := by
    intro H1 e1 e2 e3
    refine kk H1 _ ls ⟨hH.1.put ha ⟨fun z => absurd z hnl, fun _ => ⟨hk7, ?_⟩⟩ e3, hH.2.put e2 e3 (hH.1 a _ ha).1⟩ hls
    rw [e1, arrV_store, setV hlt]
  have refs : ∀ (q kv : Nat) (fs : List Value), i = .aastore → v = .ref q → h q = some (kv, fs) → (aty kd).isReference = true → (kv < 100 → ∃ C T N, vwCl[kv]? = some (C, T, N) ∧ cnm (aty kd) = C) → (¬ kv < 100 → "[" ++ (aty kv).toString = cnm (aty kd)) → W p la e R s m args below meth c H locs k n Q (F0 m pc ls (v :: .int j :: .ref a :: r)) := by
    intro q kv fs e1 e2 hq href hobj harr
    subst e1; subst e2
    obtain ⟨kA, comp, k1, k2, k3, k4⟩ := hK.2 kd (by omega) hk7
    have k4 := k4 href
    obtain ⟨kcomp, hkcomp, -⟩ := Vm.findClass_spec k4
    have hq2 := (hH.1 q _ hq).2
    by_cases hkv : kv < 100
    · obtain ⟨C, T, N, hc1, hc2⟩ := hobj hkv
      obtain ⟨r1, g0, -, cellV, g1, g2, g3, -⟩ := hq2.1 hkv
      cases hc1.symm.trans g0
      have hcls := (hK.1.1 kv _ hc1).2
      have hcomp : comp = D.1 kv := Option.some.inj (k4.symm.trans (by rw [hc2]; exact hcls.1))
      subst hcomp
      exact W.aast hx hb hc (fun q h => by cases h) (fun h => by cases h) k1 k2 href hkcomp ⟨hj.1, by rw [arrV_size]; exact hlt⟩ g1 (fun q h => by rw [g3] at h; cases h) (by rw [g2]; exact hkcomp) (by rw [g2]; exact va_assign hcls) rfl rfl hd fin'
    · obtain ⟨g0, g1⟩ := hq2.2 hkv
      obtain ⟨kA2, comp2, m1, m2, m3, -⟩ := hK.2 kv (by omega) g0
      have hcomp : comp = cA kv := Option.some.inj (k4.symm.trans (by rw [← harr hkv]; exact m3))
      subst hcomp
      exact W.aast hx hb hc (fun q h => by cases h) (fun h => by cases h) k1 k2 href hkcomp ⟨hj.1, by rw [arrV_size]; exact hlt⟩ g1 (fun q h => by cases h) hkcomp (va_asg _ _) rfl rfl hd fin'
  rcases hi with ⟨rfl, rfl, x, rfl⟩ | ⟨rfl, rfl, hv⟩ | ⟨e1, rfl, q, fs, e2, hq⟩ | ⟨e1, rfl, q, fs, e2, hq⟩ | ⟨e1, rfl, q, fs, e2, hq⟩ | ⟨e1, rfl, q, fs, e2, hq⟩
  · exact W.iast hx hb hc hA (fun q => by cases q) hin rfl rfl hd fin'
  · rcases hv with rfl | rfl
    · exact W.zast hx hb hc hA (fun q => by cases q) hin rfl rfl hd fin'
    · exact W.zast hx hb hc hA (fun q => by cases q) hin rfl rfl hd fin'
  · exact refs q 7 fs e1 e2 hq rfl (fun _ => ⟨_, _, _, rfl, rfl⟩) (fun z => absurd (by decide) z)
  · exact refs q 2 fs e1 e2 hq rfl (fun _ => ⟨_, _, _, rfl, rfl⟩) (fun z => absurd (by decide) z)
  · exact refs q 100 fs e1 e2 hq rfl (fun z => absurd z (by decide)) (fun _ => by decide +kernel)
  · exact refs q 105 fs e1 e2 hq rfl (fun z => absurd z (by decide)) (fun _ => by decide +kernel)
theorem aastN0 {T : State} {locs : List Loc} {cells slots : Nat} (X : Stand p la e R s m args below meth c T locs cells slots) (hexec : p.tables.exec = Jvm.exec) {a : Addr} {cell : Cell} {t : FieldType} {j : Int32} (hcell : T.heap[a]? = some cell) (harr : s.isArrayOf cell (.array t)) (hknown : cell.vm ≠ .unknown)
    (hin : ¬ (j < 0 ∨ cell.slots.size ≤ j.toNatClampNeg))
    {g : JFrame} (hg : g.method = m) {rest : List Value} (hstack : g.stack = .null :: .int j :: .ref a :: rest) (hdg : decode c.code g.pc = .ok (.aastore, 1)) :
    Stand p la e R s m args below meth c (T.setCell a (cell.setSlot j.toNatClampNeg .null)) (locs ++ [⟨a, j.toNatClampNeg⟩]) cells slots ∧
      ∀ target, Steps p.tables e below ((T.setCell a (cell.setSlot j.toNatClampNeg .null)).setTop { g with pc := g.pc + 1, stack := rest }) target → Steps p.tables e below (T.setTop g) target := by
  have hT := State.isArrayOf_alike X.warmed.alike harr
  have hfit : T.fitsSlot cell.cls cell.vm j.toNatClampNeg .null = true := by
    obtain ⟨hobj, k, hk, comp, hkind⟩ := hT
    cases hvm : cell.vm <;> first | exact absurd hvm (hobj _) | simp [State.fitsSlot, State.slotType?, hk, hkind, fits]
  refine ⟨X.stored hcell _ _, fun target hrest => ?_⟩
  subst hg
  jvm_step X.here [hexec, hdg]
  refine aastore.wp_of_null (c := cell) (t := .array t) X.here.top hstack hcell hT hin hknown (Nat.not_le.mp fun q => hin (Or.inr q)) hfit ?_
  intro acts
  rw [afterInstr_ok]
  exact hrest
theorem astN_ok (X : CX p s m args c D cA B0 nL cc own) {kd a : Nat} {vs : List Value} {j : Int32} (hd : decode cc pc = .ok (.aastore, 1)) (ha : h a = some (kd, vs)) (hkd : kd = 105) (hj : ¬ j < 0 ∧ j.toNatClampNeg < vs.length)
    (kk : WS p la e R s m args below meth c Q D cA B0 nL (pc + 1) l r (hup h a (kd, vs.set j.toNatClampNeg .null)) k n) : WS p la e R s m args below meth c Q D cA B0 nL pc l (.null :: .int j :: .ref a :: r) h k n := by
  obtain ⟨hx, hb, hml, hown, hts, hK, hB⟩ := X
  subst hkd
  intro H locs ls hH hls T hT X
  obtain ⟨hk7, hc⟩ := (hH.1 a _ ha).2.2 (by show ¬ 105 < 100; omega)
  have hlt : j.toNatClampNeg < vs.length := hj.2
  have hin : ¬ (j < 0 ∨ (arrV (cA 105) vs.length (vp_V vs)).slots.size ≤ j.toNatClampNeg) := by
    rw [arrV_size]; rintro (q | q)
    · exact hj.1 q
    · omega
  have hT' : T.heap[a]? = some (arrV (cA 105) vs.length (vp_V vs)) := by rw [hT]; exact hc
  obtain ⟨X', st⟩ := aastN0 X hx hT' (hK.arr (k := 105) (by omega) (by omega) vs.length (vp_V vs)) (fun q => by cases q) hin (g := F0 m pc ls (.null :: .int j :: .ref a :: r)) rfl rfl (by rw [hb]; exact hd)
  have hlt2 : a < T.heap.size := (Array.getElem?_eq_some_iff.mp hT').1
  have e3 : ∀ q : Nat, q ≠ a → (T.setCell a ((arrV (cA 105) vs.length (vp_V vs)).setSlot j.toNatClampNeg .null)).heap[q]? = H[q]? := fun q hq => by rw [heapAt_setCell_ne _ (Ne.symm hq), hT]
  have e2 : (T.setCell a ((arrV (cA 105) vs.length (vp_V vs)).setSlot j.toNatClampNeg .null)).heap.size = H.size := by rw [size_setCell, hT]
  obtain ⟨t', a1, b1⟩ := kk _ _ ls ⟨hH.1.put ha ⟨fun z => absurd z (by simp), fun _ => ⟨hk7, by rw [heapAt_setCell_self _ hlt2, arrV_store, setV hlt]⟩⟩ e3, hH.2.put e2 e3 (hH.1 a _ ha).1⟩ hls (T.setCell a ((arrV (cA 105) vs.length (vp_V vs)).setSlot j.toNatClampNeg .null)) rfl X'
  exact ⟨t', st t' a1, b1⟩
theorem getfN_ok (X : CX p s m args c D cA B0 nL cc own) (hw : ∀ w ∈ lw_tbl, isNest w = true → va_Nw w s) {idx ci kf a : Nat} {fs : List Value} {v : Value} (hF : FLN own idx ci kf) (hd : decode cc pc = .ok (.getfield idx, 3)) (ha : h a = some (ci, fs)) (hv : fs[kf]? = some v)
    (kk : WS p la e R s m args below meth c Q D cA B0 nL (pc + 3) l (v :: r) h k n) : WS p la e R s m args below meth c Q D cA B0 nL pc l (.ref a :: r) h k n := by
  obtain ⟨hx, hb, hml, hown, hts, hK, hB⟩ := X
  obtain ⟨C, T, N, host, hc, hin, hk, hl, hC⟩ := hF
  intro H locs ls hH hls
  obtain ⟨r0, h1, h2, cell, q1, q2, q3, q4⟩ := (hH.1 a _ ha).2.1 (vwCl_lt hc)
  have hr : r0 = (C, T, N) := Option.some.inj (h1.symm.trans hc)
  subst hr
  obtain ⟨hS, hfc, kC, hkC, hkind⟩ := hK.1.1 ci _ hc
  obtain ⟨cf, kf0, fi, f, hi, hsl⟩ := hS kf hk
  refine va_Wgetf hx hb hown (va_Nw.use rfl (hw _ hl rfl)) (by rw [← hC]; exact hi) (u_facts hfc hkC (u_lays hts hin hk) hi).1 q1 (by rw [q3]; exact fun h => by cases h) (v := v) ?_ rfl rfl hd (kk H locs ls hH hls)
  rw [hsl, q4 kf hk]
  simp [vp_V, hv]
/-- a new array of numbers -/
theorem newa_ok (X : CX p s m args c D cA B0 nL cc own) {at' : ArrayType} {kd : Nat} {j : Int32} (hk : (at' = .int ∧ kd = 100) ∨ (at' = .boolean ∧ kd = 101)) (hw : Cond.arrayClass (newarray.typeOf at') ∈ WT) (hd : decode cc pc = .ok (.newarray at', 2)) (hj : ¬ j < 0) (hj2 : j.toNatClampNeg ≤ 1000) (hr1 : k + 1 ≤ R.cells) (hr2 : n + j.toNatClampNeg ≤ R.slots)
    (kk : ∀ q : Nat, h q = none → B0 ≤ q → WS p la e R s m args below meth c Q D cA B0 nL (pc + 2) l (.ref q :: r) (hup h q (kd, List.replicate j.toNatClampNeg (.int 0))) (k + 1) (n + j.toNatClampNeg)) : WS p la e R s m args below meth c Q D cA B0 nL pc l (.int j :: r) h k n := by
  obtain ⟨hx, hb, hml, hown, hts, hK, hB⟩ := X
  intro H locs ls hH hls
  have hBH : B0 ≤ H.size := Nat.le_trans hB hH.2.1
  have hbytes : j.toNatClampNeg * componentBytes (newarray.typeOf at') ≤ 536870912 := by
    rcases hk with ⟨rfl, rfl⟩ | ⟨rfl, rfl⟩
    · show j.toNatClampNeg * 4 ≤ 536870912; omega
    · show j.toNatClampNeg * 1 ≤ 536870912; omega
  refine va_newaK hx hb (hts _ hw) rfl hd rfl hj rfl hbytes hr1 hr2 rfl fun H1 cA' e1 z1 o1 hAr hNm => ?_
  refine kk H.size (hH.1.fresh) hBH H1 _ ls ⟨hH.1.push hBH ⟨fun z => ?_, fun _ => ⟨?_, ?_⟩⟩ o1, Nat.le_trans hH.2.1 (by omega), fun x h1 h2 => (o1 x (Nat.lt_of_lt_of_le h1 hH.2.1)).trans (hH.2.2.1 x h1 h2), hH.2.2.2⟩ hls
  · rcases hk with ⟨-, rfl⟩ | ⟨-, rfl⟩ <;> exact absurd z (by simp)
  · rcases hk with ⟨-, rfl⟩ | ⟨-, rfl⟩ <;> simp
  · have hcA : cA' = cA kd := by
      rcases hk with ⟨rfl, rfl⟩ | ⟨rfl, rfl⟩
      · obtain ⟨_, _, -, -, k3, -⟩ := hK.2 100 (by decide) (by decide)
        exact Option.some.inj (hNm.symm.trans k3)
      · obtain ⟨_, _, -, -, k3, -⟩ := hK.2 101 (by decide) (by decide)
        exact Option.some.inj (hNm.symm.trans k3)
    rw [e1, hcA]
    have hdv : defaultValue (newarray.typeOf at') = .int 0 := by rcases hk with ⟨rfl, -⟩ | ⟨rfl, -⟩ <;> rfl
    rw [hdv]
    show some (arrV (cA kd) j.toNatClampNeg fun _ => Value.int 0) = some (arrV (cA kd) (List.replicate j.toNatClampNeg (Value.int 0)).length (vp_V (List.replicate j.toNatClampNeg (Value.int 0))))
    rw [List.length_replicate]
    congr 1
    unfold arrV
    congr 2
    funext q
    rw [vp_V_get (v := .int 0)]
    simp
theorem newq_fin (hK : KO D cA s) (hB : B0 ≤ s.heap.size) {H : Heap} {locs : List Loc} {ls : Array Slot} (hH : HS D cA B0 s h H locs) (hls : lv_has ls nL l) {kd N : Nat} (hkd : 103 ≤ kd) (hkd2 : kd < 107) {cA' : ClassId} (hNm : s.vm.findClass ("[" ++ (aty kd).toString) = some cA')
    (kk : ∀ q : Nat, h q = none → B0 ≤ q → WS p la e R s m args below meth c Q D cA B0 nL (pc + 3) l (.ref q :: r) (hup h q (kd, List.replicate N .null)) (k + 1) (n + N)) :
    W p la e R s m args below meth c (H.push { cls := cA', slots := Array.replicate N .null, vm := .none }) locs (k + 1) (n + N) Q (F0 m (pc + 3) ls (.ref H.size :: r)) := by
  have hBH : B0 ≤ H.size := Nat.le_trans hB hH.2.1
  have o1 : ∀ q : Nat, q < H.size → (H.push ({ cls := cA', slots := Array.replicate N .null, vm := .none } : Cell))[q]? = H[q]? := fun q hq => by rw [Array.getElem?_push, if_neg (Nat.ne_of_lt hq)]
  refine kk H.size (hH.1.fresh) hBH _ _ ls ⟨hH.1.push hBH ⟨fun z => absurd z (by simp; omega), fun _ => ⟨(show kd < 108 by omega), ?_⟩⟩ o1, by rw [Array.size_push]; exact Nat.le_trans hH.2.1 (by omega), fun x h1 h2 => (o1 x (Nat.lt_of_lt_of_le h1 hH.2.1)).trans (hH.2.2.1 x h1 h2), hH.2.2.2⟩ hls
  obtain ⟨_, _, -, -, k3, -⟩ := hK.2 kd (by omega) (by omega)
  have hcA : cA' = cA kd := Option.some.inj (hNm.symm.trans k3)
  rw [Array.getElem?_push_size, hcA, arrV_new]
  show some (arrV (cA kd) N fun _ => Value.null) = some (arrV (cA kd) (List.replicate N Value.null).length (vp_V (List.replicate N Value.null)))
  rw [List.length_replicate]
  congr 1
  unfold arrV
  congr 2
  funext q
  rw [vp_V_get (v := .null)]
  simp
theorem anew_ok (X : CX p s m args c D cA B0 nL cc own) {idx kd : Nat} {j : Int32} (hkd : 103 ≤ kd ∧ kd < 107) (hl : Cond.classLink own idx (cnm (aty kd)) ∈ WT) (ho : (Cond.arrayOver (aty kd)).before args s = true) (hd : decode cc pc = .ok (.anewarray idx, 3)) (hj : ¬ j < 0) (hj2 : j.toNatClampNeg ≤ 1000) (hr1 : k + 1 ≤ R.cells) (hr2 : n + j.toNatClampNeg ≤ R.slots)
    (kk : ∀ q : Nat, h q = none → B0 ≤ q → WS p la e R s m args below meth c Q D cA B0 nL (pc + 3) l (.ref q :: r) (hup h q (kd, List.replicate j.toNatClampNeg .null)) (k + 1) (n + j.toNatClampNeg)) : WS p la e R s m args below meth c Q D cA B0 nL pc l (.int j :: r) h k n := by
  obtain ⟨hx, hb, hml, hown, hts, hK, hB⟩ := X
  intro H locs ls hH hls
  have h4 : kd = 103 ∨ kd = 104 ∨ kd = 105 ∨ kd = 106 := by omega
  rcases h4 with rfl | rfl | rfl | rfl
  · rw [aty103] at hl ho
    exact W.anew (C := RX5) hx hb hown (hts _ hl) ho rfl hd rfl hj (by omega) hr1 hr2 fun cA' kA comp f1 f2 f3 f4 => newq_fin (kd := 103) hK hB hH hls (by omega) (by omega) (by rw [aty103]; exact f1) kk
  · rw [aty104] at hl ho
    exact W.anew (C := RX0) hx hb hown (hts _ hl) ho rfl hd rfl hj (by omega) hr1 hr2 fun cA' kA comp f1 f2 f3 f4 => newq_fin (kd := 104) hK hB hH hls (by omega) (by omega) (by rw [aty104]; exact f1) kk
  · rw [aty105] at hl ho
    exact W.anewA (t := .int) hx hb hown (hts _ hl) ho rfl hd rfl hj (by omega) hr1 hr2 fun cA' kA comp f1 f2 f3 f4 => newq_fin (kd := 105) hK hB hH hls (by omega) (by omega) (by rw [aty105]; exact f1) kk
  · rw [aty106] at hl ho
    exact W.anewA (t := (.array .int)) hx hb hown (hts _ hl) ho rfl hd rfl hj (by omega) hr1 hr2 fun cA' kA comp f1 f2 f3 f4 => newq_fin (kd := 106) hK hB hH hls (by omega) (by omega) (by rw [aty106]; exact f1) kk
/-- a class whose objects are made, with the values of a new one -/
def NC (own : String) (idx ci : Nat) (fs : List Value) : Prop := ∃ (C : String) (T : u_T) (N : Nat) (ty : Nat → FieldType), vwCl[ci]? = some (C, T, N) ∧ (∀ w ∈ u_ws C T N, w ∈ WT) ∧ (∀ k, k < N → parseFieldDescriptor (T k).2.2.1 = some (ty k)) ∧ fs.length = N ∧ (∀ j, j < N → defaultValue (ty j) = vp_V fs j) ∧
  Cond.classLink own idx C ∈ WT ∧ Cond.instantiable C N ∈ WT ∧ Cond.initialized C ∈ WT
theorem new_ok (X : CX p s m args c D cA B0 nL cc own) {idx ci : Nat} {fs : List Value} (hN : NC own idx ci fs) (hd : decode cc pc = .ok (.new idx, 3)) (hr1 : k + 1 ≤ R.cells) (hr2 : n + fs.length ≤ R.slots)
    (kk : ∀ q : Nat, h q = none → B0 ≤ q → WS p la e R s m args below meth c Q D cA B0 nL (pc + 3) l (.ref q :: r) (hup h q (ci, fs)) (k + 1) (n + fs.length)) : WS p la e R s m args below meth c Q D cA B0 nL pc l r h k n := by
  obtain ⟨hx, hb, hml, hown, hts, hK, hB⟩ := X
  obtain ⟨C, T, N, ty, hc, hin, hty, hlen, hdv, w1, w2, w3⟩ := hN
  subst hlen
  intro H locs ls hH hls
  have hBH : B0 ≤ H.size := Nat.le_trans hB hH.2.1
  have hKn := hK.1.1 ci _ hc
  refine W.newcK hx hb hown (hts _ w1) (hts _ w2) (hts _ w3) rfl hd hr1 hr2 hKn.2.1 rfl fun H1 kC hkC e1 z1 o1 => ?_
  exact kk H.size (hH.1.fresh) hBH H1 _ ls ⟨hH.1.push hBH ⟨fun _ => ⟨_, hc, rfl, (u_born ty hts hin hKn hkC e1 hty).to hdv⟩, fun z => absurd (vwCl_lt hc) z⟩ o1, Nat.le_trans hH.2.1 (by omega), fun x h1 h2 => (o1 x (Nat.lt_of_lt_of_le h1 hH.2.1)).trans (hH.2.2.1 x h1 h2), hH.2.2.2⟩ hls
end ARR
end U09arr
section U10call
/-! CONTRACTS over the picture, and calls -/
def partsF (j : Nat) : Value := [Value.int 0, .int 0, .int 1, .int 1, .int 2, .int 2, .int 3, .int 3].getD j .null
/-- the texts whose letters are used: number, place, text, bytes -/
def scO : Nat → String
  | 4 => RX6
  | _ => RX10
def scK : Nat → Nat
  | 0 => 176
  | 1 => 189
  | 2 => 191
  | 3 => 197
  | _ => 323
def scT : Nat → String
  | 0 => ""
  | 1 => "("
  | 2 => ","
  | 3 => ")"
  | _ => "KLMNPQST"
def scB : List (List Int32) := [[], [40], [44], [41], [75, 76, 77, 78, 80, 81, 83, 84]]
def scL : List Nat := [0, 1, 1, 1, 8]
/-- the texts of exceptions -/
def xsL : List (String × Nat × String) := [(RX6, 135, "by is not 0 to 7"), (RX6, 183, "how is not 0 or 1"), (RX6, 211, "how is not 0 to 2"), (RX6, 239, "what is not 0 to 4"), (RX6, 308, "no such slot"), (RX6, 311, "no such answe\x72"), (RX6, 313, "no such name"), (RX6, 86, "no such head"), (RX0, 29, "no such name")]
/-- what a throw and a text need of the state: cells below B0; where the texts lie stands in D (50: the texts, 51: their bytes) -/
def XS (D : va_G) (B0 : Nat) (U : State) (H : Heap) : Prop := vx_Zq Bundle.tN "UNASSIGNED_STACK" Bundle.steD (fun q : Nat => B0 ≤ q) U H ∧ vx_Zq Bundle.tN "SUPPRESSED_SENTINEL" Bundle.listD (fun q : Nat => B0 ≤ q) U H ∧
  va_Z "java/lang/String" "COMPACT_STRINGS" "Z" (.int 1) (fun q : Nat => B0 ≤ q) U H ∧ (∀ q ∈ xsL, ∃ a, vk_R q.1 q.2.1 q.2.2 a U) ∧ (∀ i, i < 5 → vk_R (scO i) (scK i) (scT i) (D.2 50 i) U) ∧ vk_S 5 scL scB (D.2 50) (D.2 51) (fun q : Nat => B0 ≤ q) U H ∧
  va_Nc "java/lang/IllegalArgumentException" "java/lang/IndexOutOfBoundsException" U ∧ va_Zq "jdk/internal/util/Preconditions" "SIOOBE_FORMATTER" "Ljava/util/function/BiFunction;" (fun q : Nat => B0 ≤ q) U H
theorem XS.to {D : va_G} {B0 : Nat} {u U : State} (h : XS D B0 u u.heap) (hW : u.WarmedH U.vm) (hk : ∀ a : Nat, a < u.heap.size → ¬ B0 ≤ a → U.heap[a]? = u.heap[a]?) : XS D B0 U U.heap := by
  obtain ⟨h1, h2, h3, h4, h5, h6, h7, h8⟩ := h
  have hal := hW.alike
  exact ⟨(h1.moved hal).kept hk, (h2.moved hal).kept hk, (h3.moved hal).kept hk, fun q hq => (h4 q hq).elim fun a ha => ⟨a, vk_R.warm hW ha⟩, fun i hi => vk_R.warm hW (h5 i hi), (h6.moved hal).kept hk, h7.moved hal, (h8.moved hal).kept hk⟩
/-- the static table PARTS, at the cell pa, below B0; the texts -/
def SF (D : va_G) (B0 pa : Nat) (U : State) (H : Heap) : Prop := va_Z RX6 "PARTS" "[I" (.ref pa) (fun q : Nat => B0 ≤ q) U H ∧ va_T .int pa 8 partsF (fun q : Nat => B0 ≤ q) U H ∧ XS D B0 U H
def OV (A : Array Value) (U : State) : Prop := ∀ kd : Nat, 103 ≤ kd → kd < 107 → (Cond.arrayOver (aty kd)).before A U = true
/-- what stands all the time, in every state -/
def EN (D : va_G) (cA : Nat → ClassId) (B0 pa : Nat) (U : State) : Prop := KO D cA U ∧ (∀ w ∈ lw_tbl, isNest w = true → va_Nw w U) ∧ OV #[] U ∧ SF D B0 pa U U.heap ∧ B0 ≤ U.heap.size
theorem OV.moved {A A' : Array Value} {u U : State} (hvm : u.vm.Alike U.vm) (h : OV A u) : OV A' U := by
  intro kd h1 h2
  have h4 : kd = 103 ∨ kd = 104 ∨ kd = 105 ∨ kd = 106 := by omega
  have hh := h kd h1 h2
  rcases h4 with rfl | rfl | rfl | rfl
  · rw [aty103] at hh ⊢
    exact va_AO.use (va_AO.moved hvm (va_AO.of hh))
  · rw [aty104] at hh ⊢
    exact va_AO.use (va_AO.moved hvm (va_AO.of hh))
  · rw [aty105] at hh ⊢
    exact over_moved hvm hh
  · rw [aty106] at hh ⊢
    exact over_moved hvm hh
theorem EN.to {D : va_G} {cA : Nat → ClassId} {B0 pa : Nat} {u U : State} (h : EN D cA B0 pa u) (hW : u.WarmedH U.vm) (hs : u.heap.size ≤ U.heap.size) (hq : ∀ q : Nat, q < B0 → U.heap[q]? = u.heap[q]?) : EN D cA B0 pa U := by
  obtain ⟨h1, h2, h3, h4, h5⟩ := h
  have hal := hW.alike
  have hk : ∀ a : Nat, a < u.heap.size → ¬ B0 ≤ a → U.heap[a]? = u.heap[a]? := fun a _ z => hq a (by omega)
  refine ⟨h1.moved hal, fun w hw hn => ?_, h3.moved hal, ⟨(h4.1.moved hal).kept hk, (h4.2.1.moved hal).kept hk, h4.2.2.to hW hk⟩, Nat.le_trans h5 hs⟩
  have h6 := h2 w hw hn
  unfold isNest at hn
  split at hn <;> first | exact va_Nw.warmM hW h6 | exact va_Nw.warmF hW h6 | exact va_Nw.warmD hW h6 | exact va_Nw.warmC hW h6 | cases hn
def PC (D : va_G) (cA : Nat → ClassId) (B0 pa : Nat) (av : List Value) (h : AH) : Array Value → State → Prop := va_Pc av (fun U => Rp D cA B0 h U.heap ∧ EN D cA B0 pa U)
def QC (D : va_G) (cA : Nat → ClassId) (B0 : Nat) (post : Option Value → AH → Prop) : Array Value → State → Outcome → State → Prop := fun _ st oc t =>
  ∃ (v : Option Value) (h' : AH), oc = .returned v ∧ post v h' ∧ Rp D cA B0 h' t.heap ∧ st.heap.size ≤ t.heap.size ∧ ∀ q : Nat, q < B0 → t.heap[q]? = st.heap[q]?
/-- A CONTRACT: from the picture h and these arguments the method comes to a picture and an answer as 'post' says, within its room -/
def CT (la : Launch) (D : va_G) (cA : Nat → ClassId) (B0 pa : Nat) (y : MethodName) (bytes : ByteArray) (maxL : Nat) (ret : Option FieldType) (rm : Room) (av : List Value) (h : AH) (post : Option Value → AH → Prop) : Prop :=
  Met la y (Cond.code y bytes maxL ret :: WT) rm (PC D cA B0 pa av h) (QC D cA B0 post) rm.cells rm.slots (fun q : Nat => B0 ≤ q)
theorem PC_blind {D : va_G} {cA : Nat → ClassId} {B0 pa : Nat} {av : List Value} {h : AH} : FrameBlind (PC D cA B0 pa av h) := by
  intro a U g mk q
  obtain ⟨q1, q2, q3⟩ := q
  exact ⟨q1, q2, q3.to (State.WarmedH.refl U) (Nat.le_refl _) (fun _ _ => rfl)⟩
theorem CT_of {la : Launch} {D : va_G} {cA : Nat → ClassId} {B0 pa : Nat} {y : MethodName} {bytes : ByteArray} {maxL : Nat} {ret : Option FieldType} {rm : Room} {av : List Value} {h : AH} {post : Option Value → AH → Prop}
    (hy : plainName y.cls = true) (hml : (lg_sl av).length ≤ maxL)
    (body : ∀ (p : Program) (e : Env) (s : State) (m : MethodId) (args : Array Value) (below : List Frame) (meth : Method) (c : Code), CX p s m args c D cA B0 maxL bytes y.cls → EN D cA B0 pa s → meth.sig.returnType = ret → meth.locks = false → meth.name = y.name →
      WS p la e rm s m args below meth c (MQ below (QC D cA B0 post) args s rm.cells rm.slots (fun q : Nat => B0 ≤ q)) D cA B0 maxL 0 (lv_args 0 av) [] h 0 0) : CT la D cA B0 pa y bytes maxL ret rm av h post := by
  refine Met.ofW (cc := bytes) (maxL := maxL) (ret := ret) hy rfl ?_
  intro p e s m args below meth c s₁ B hmlc hv
  obtain ⟨rfl, hR, hE⟩ := hv
  have hts := atoms_spec (ws := Cond.code y bytes maxL ret :: WT) B.pre
  have hown : s.vm.findClass y.cls = some m.cls := findClass_of_methodNamed B.named
  have hX : CX p s m av.toArray c D cA B0 maxL bytes y.cls := ⟨B.exec, B.bytes, hmlc, hown, fun w hw => hts w (List.mem_cons_of_mem _ hw), hE.1, hE.2.2.2.2⟩
  have hl := lv_entry av (n := maxL) hml
  rw [lg_entry_eq]
  exact body p e s m av.toArray below meth c hX hE B.returns B.notSynchronized (name_of_methodNamed B.named B.method).1 s.heap [] _ ⟨hR, va_S.rf⟩ hl
section CALL
variable {p : Program} {la : Launch} {e : Env} {R : Room} {s : State} {m : MethodId} {args : Array Value} {below : List Frame} {meth : Method} {c : Code} {Q : State → Prop}
variable {D : va_G} {cA : Nat → ClassId} {B0 pa nL : Nat} {cc : ByteArray} {own : String} {pc k n : Nat} {l : List (Nat × Value)} {r : List Value} {h : AH}
/-- behind a call -/
theorem run_ok {mc ms idx : Nat} {st : List Value} {As : Array Value} {post : Option Value → AH → Prop} (hB : B0 ≤ s.heap.size)
    (hr : ∀ (H : Heap) (locs : List Loc) (ls : Array Slot), HS D cA B0 s h H locs → lv_has ls nL l → va_Run p la e R s m args below meth c H locs k n mc ms (F0 m pc ls st) r (QC D cA B0 post As) (fun q : Nat => B0 ≤ q))
    (kk : ∀ (v : Option Value) (h' : AH), post v h' → WS p la e R s m args below meth c Q D cA B0 nL (pc + 3) l (v.toList ++ r) h' (k + mc) (n + ms)) : WS p la e R s m args below meth c Q D cA B0 nL pc l st h k n := by
  intro H locs ls hH hls T hT X
  obtain ⟨v, st₀, t, T', L, h0, X', hL, e1, e2, ⟨v', h', hv, hp, hR, hz, hq⟩, stp⟩ := hr H locs ls hH hls T hT X
  cases hv
  have hz' : H.size ≤ T'.heap.size := by rw [e1, ← h0]; exact hz
  obtain ⟨t2, a1, b1⟩ := kk v h' hp T'.heap (locs ++ L) ls ⟨by rw [e1]; exact hR, Nat.le_trans hH.2.1 hz', fun q h1 h2 => by rw [e1, hq q (by omega), h0]; exact hH.2.2.1 q h1 h2, fun q hq' => by
      rcases List.mem_append.mp hq' with g | g
      · exact hH.2.2.2 q g
      · exact hL q g⟩ hls T' rfl X'
  exact ⟨t2, stp t2 a1, b1⟩
/-- what a call needs of the tables -/
def LK (y : MethodName) (bytes : ByteArray) (maxL np : Nat) (ret : Option FieldType) : Prop := Cond.code y bytes maxL ret ∈ WT ∧ Cond.initialized y.cls ∈ WT ∧ (y.cls ≠ "java/lang/invoke/MethodHandle" ∧ y.cls ≠ "java/lang/invoke/VarHandle") ∧ (parseMethodDescriptor y.desc).map (fun d => d.parameters.length) = some np
theorem preS_of (X : CX p s m args c D cA B0 nL cc own) (E : EN D cA B0 pa s) {H : Heap} {locs : List Loc} (hH : HS D cA B0 s h H locs) (av : List Value) : PreS s H (PC D cA B0 pa av h) av :=
  ⟨PC_blind, fun U hU hW => ⟨rfl, by rw [hU]; exact hH.1, E.to hW (by rw [hU]; exact hH.2.1) (fun q hq => by rw [hU]; exact hH.2.2.1 q (Nat.lt_of_lt_of_le hq E.2.2.2.2) (by omega))⟩⟩
theorem callB_ok (X : CX p s m args c D cA B0 nL cc own) {y : MethodName} {bytes : ByteArray} {maxL np idx : Nat} {ret : Option FieldType} {rm : Room} (hL : LK y bytes maxL np ret) (hl : Cond.methodLink own idx y ∈ WT) (hR : rm.frames + 1 ≤ R.frames ∧ 8 + (maxL + 11) + rm.locals ≤ R.locals) :
    CallB R s args own idx y bytes maxL ret (Cond.code y bytes maxL ret :: WT) rm rm.cells rm.slots np :=
  callB_of np X.2.2.2.2.1 (WT_goodIn y bytes maxL ret hL.1) rfl rfl rfl (X.2.2.2.2.1 _ hL.2.1) (X.2.2.2.2.1 _ hl) ⟨hL.2.2.1.1, hL.2.2.1.2, hL.2.2.2⟩ hR
theorem fix_ok (X : CX p s m args c D cA B0 nL cc own) : CallFix p m c cc nL s args WT own := ⟨X.1, X.2.1, X.2.2.1, X.2.2.2.1, X.2.2.2.2.1⟩
theorem callS_ok (X : CX p s m args c D cA B0 nL cc own) (E : EN D cA B0 pa s) {y : MethodName} {bytes : ByteArray} {maxL idx : Nat} {ret : Option FieldType} {rm : Room} {av : List Value} {post : Option Value → AH → Prop}
    (hM : CT la D cA B0 pa y bytes maxL ret rm av h post) (hL : LK y bytes maxL av.length ret) (hl : Cond.methodLink own idx y ∈ WT) (hs : Cond.static y ∈ WT) (hR : rm.frames + 1 ≤ R.frames ∧ 8 + (maxL + 11) + rm.locals ≤ R.locals) (hf : k + rm.cells ≤ R.cells ∧ n + rm.slots ≤ R.slots)
    (hW : (r.map fun v => v.category).sum ≤ 8) (hd : decode cc pc = .ok (.invokestatic idx, 3))
    (kk : ∀ (v : Option Value) (h' : AH), post v h' → WS p la e R s m args below meth c Q D cA B0 nL (pc + 3) l (v.toList ++ r) h' (k + rm.cells) (n + rm.slots)) : WS p la e R s m args below meth c Q D cA B0 nL pc l (av.reverse ++ r) h k n :=
  run_ok (idx := idx) X.2.2.2.2.2.2 (fun H locs ls hH hls => va_runS (fix_ok X) hM ⟨callB_ok X hL hl hR, X.2.2.2.2.1 _ hs⟩ (preS_of X E hH av) rfl rfl hls.1 rfl (lv_room hW) hd hf) kk
theorem callV_ok (X : CX p s m args c D cA B0 nL cc own) (E : EN D cA B0 pa s) {y : MethodName} {bytes : ByteArray} {maxL idx ci b : Nat} {ret : Option FieldType} {rm : Room} {av fs : List Value} {T : u_T} {N : Nat} {post : Option Value → AH → Prop}
    (hM : CT la D cA B0 pa y bytes maxL ret rm (.ref b :: av) h post) (hL : LK y bytes maxL av.length ret) (hl : Cond.methodLink own idx y ∈ WT) (hi : Cond.instanceMethod y ∈ WT) (hse : Cond.selects y.cls y y ∈ WT) (hR : rm.frames + 1 ≤ R.frames ∧ 8 + (maxL + 11) + rm.locals ≤ R.locals) (hf : k + rm.cells ≤ R.cells ∧ n + rm.slots ≤ R.slots)
    (hc : vwCl[ci]? = some (y.cls, T, N)) (hb : h b = some (ci, fs))
    (hW : (r.map fun v => v.category).sum ≤ 8) (hd : decode cc pc = .ok (.invokevirtual idx, 3))
    (kk : ∀ (v : Option Value) (h' : AH), post v h' → WS p la e R s m args below meth c Q D cA B0 nL (pc + 3) l (v.toList ++ r) h' (k + rm.cells) (n + rm.slots)) : WS p la e R s m args below meth c Q D cA B0 nL pc l (av.reverse ++ .ref b :: r) h k n := by
  refine run_ok (idx := idx) (As := (Value.ref b :: av).toArray) X.2.2.2.2.2.2 (fun H locs ls hH hls => va_runV (C := y.cls) (fix_ok X) hM ⟨callB_ok X hL hl hR, X.2.2.2.2.1 _ hi, X.2.2.2.2.1 _ hse⟩ ⟨PC_blind, ?_, (preS_of X E hH (.ref b :: av)).2⟩ rfl rfl hls.1 rfl (lv_room hW) hd hf) kk
  obtain ⟨r1, g0, -, cell, g1, g2, g3, -⟩ := (hH.1 b _ hb).2.1 (vwCl_lt hc)
  exact ⟨cell, g1, by rw [g3]; rfl, by rw [g2]; exact (X.2.2.2.2.2.1.1.1 ci _ hc).2.1⟩
theorem callI_ok (X : CX p s m args c D cA B0 nL cc own) (E : EN D cA B0 pa s) {y : MethodName} {bytes : ByteArray} {maxL idx b : Nat} {rm : Room} {av : List Value} {post : Option Value → AH → Prop}
    (hM : CT la D cA B0 pa y bytes maxL none rm (.ref b :: av) h post) (hL : LK y bytes maxL av.length none) (hl : Cond.methodLink own idx y ∈ WT) (hi : Cond.instanceMethod y ∈ WT) (hn : y.name = "<init>") (hR : rm.frames + 1 ≤ R.frames ∧ 8 + (maxL + 11) + rm.locals ≤ R.locals) (hf : k + rm.cells ≤ R.cells ∧ n + rm.slots ≤ R.slots)
    (hW : (r.map fun v => v.category).sum ≤ 8) (hd : decode cc pc = .ok (.invokespecial idx, 3))
    (kk : ∀ (v : Option Value) (h' : AH), post v h' → WS p la e R s m args below meth c Q D cA B0 nL (pc + 3) l (v.toList ++ r) h' (k + rm.cells) (n + rm.slots)) : WS p la e R s m args below meth c Q D cA B0 nL pc l (av.reverse ++ .ref b :: r) h k n :=
  run_ok (idx := idx) (As := (Value.ref b :: av).toArray) X.2.2.2.2.2.2 (fun H locs ls hH hls => va_runI (fix_ok X) hM ⟨callB_ok X hL hl hR, hn, X.2.2.2.2.1 _ hi⟩ (preS_of X E hH (.ref b :: av)) rfl rfl hls.1 rfl (lv_room hW) hd hf) kk
end CALL
end U10call
section U10ashift
/-! reading in a piece of the code (printed by wip/rows/genSh.py) -/
section SgS
variable {A B : ByteArray} {d : Nat}
end SgS
/-- where a piece begins -/
def sgOff {α : Type} : List (List α) → Nat → Nat
  | _, 0 => 0
  | [], _ + 1 => 0
  | r :: rs, t + 1 => r.length + sgOff rs t
end U10ashift
