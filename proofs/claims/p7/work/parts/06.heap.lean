section U06heap
/-! THE PICTURE OF THE HEAP: at an address a kind and a row of values. Kinds below 100 are the classes of vwCl, from 100 on arrays (100: the reference's rows of numbers, 107: those of the class). -/
abbrev AC : Type := Nat × List Value
abbrev AH : Type := Nat → Option AC
def hup (h : AH) (a : Nat) (c : AC) : AH := fun b => if b = a then some c else h b
theorem hup_self (h : AH) (a : Nat) (c : AC) : hup h a c a = some c := by simp [hup]
theorem hup_ne (h : AH) {a b : Nat} (c : AC) (hb : b ≠ a) : hup h a c b = h b := by simp [hup, hb]
/-- the component of an array of a kind -/
def aty (k : Nat) : FieldType := match k with
  | 100 => .int
  | 101 => .boolean
  | 102 => .byte
  | 103 => .object RX5
  | 104 => .object RX0
  | 105 => .array .int
  | 107 => .int
  | _ => .array (.array .int)
def cnm (t : FieldType) : String := match t with
  | .object C => C
  | t => t.toString
def atC (D : va_G) (cA : Nat → ClassId) (a : Nat) (c : AC) (H : Heap) : Prop :=
  (c.1 < 100 → ∃ r : vw_C, vwCl[c.1]? = some r ∧ r.2.2 = c.2.length ∧ t_OB a (D.1 c.1) r.2.2 (D.2 c.1) H (vp_V c.2)) ∧
  (¬ c.1 < 100 → c.1 < 108 ∧ H[a]? = some (arrV (cA c.1) c.2.length (vp_V c.2)))
def Rp (D : va_G) (cA : Nat → ClassId) (B0 : Nat) (h : AH) (H : Heap) : Prop := ∀ (a : Nat) (c : AC), h a = some c → B0 ≤ a ∧ atC D cA a c H
theorem atC.kept {D : va_G} {cA : Nat → ClassId} {a : Nat} {c : AC} {H H1 : Heap} (h : atC D cA a c H) (hq : H1[a]? = H[a]?) : atC D cA a c H1 := by
  refine ⟨fun hc => ?_, fun hc => ?_⟩
  · obtain ⟨r, h1, h2, h3⟩ := h.1 hc
    exact ⟨r, h1, h2, h3.kept hq⟩
  · obtain ⟨h1, h2⟩ := h.2 hc
    exact ⟨h1, hq.trans h2⟩
theorem atC.lt {D : va_G} {cA : Nat → ClassId} {a : Nat} {c : AC} {H : Heap} (h : atC D cA a c H) : a < H.size := by
  by_cases hc : c.1 < 100
  · obtain ⟨r, -, -, cell, h2, -⟩ := h.1 hc
    exact (Array.getElem?_eq_some_iff.mp h2).1
  · exact (Array.getElem?_eq_some_iff.mp (h.2 hc).2).1
theorem Rp.lt {D : va_G} {cA : Nat → ClassId} {B0 : Nat} {h : AH} {H : Heap} (hR : Rp D cA B0 h H) {a : Nat} {c : AC} (ha : h a = some c) : a < H.size := (hR a c ha).2.lt
theorem Rp.put {D : va_G} {cA : Nat → ClassId} {B0 : Nat} {h : AH} {H H1 : Heap} (hR : Rp D cA B0 h H) {a : Nat} {c0 c1 : AC} (ha : h a = some c0) (h1 : atC D cA a c1 H1) (oq : ∀ q : Nat, q ≠ a → H1[q]? = H[q]?) : Rp D cA B0 (hup h a c1) H1 := by
  intro b c hb
  by_cases e : b = a
  · subst e
    rw [hup_self] at hb
    cases hb
    exact ⟨(hR _ _ ha).1, h1⟩
  · rw [hup_ne _ _ e] at hb
    exact ⟨(hR _ _ hb).1, (hR _ _ hb).2.kept (oq b e)⟩
theorem Rp.push {D : va_G} {cA : Nat → ClassId} {B0 : Nat} {h : AH} {H H1 : Heap} (hR : Rp D cA B0 h H) {c1 : AC} (h0 : B0 ≤ H.size) (h1 : atC D cA H.size c1 H1) (oq : ∀ q : Nat, q < H.size → H1[q]? = H[q]?) : Rp D cA B0 (hup h H.size c1) H1 := by
  intro b c hb
  by_cases e : b = H.size
  · subst e
    rw [hup_self] at hb
    cases hb
    exact ⟨h0, h1⟩
  · rw [hup_ne _ _ e] at hb
    exact ⟨(hR _ _ hb).1, (hR _ _ hb).2.kept (oq b (hR.lt hb))⟩
theorem Rp.fresh {D : va_G} {cA : Nat → ClassId} {B0 : Nat} {h : AH} {H : Heap} (hR : Rp D cA B0 h H) : h H.size = none := by
  cases e : h H.size with
  | none => rfl
  | some c => exact absurd (hR.lt e) (Nat.lt_irrefl _)
/-- what the tables say of the classes and of the arrays' classes -/
def KA (cA : Nat → ClassId) (U : State) : Prop := ∀ k : Nat, 100 ≤ k → k < 108 → ∃ (kA : Class) (comp : ClassId), U.vm.classes[cA k]? = some kA ∧ kA.kind = .array comp (aty k) ∧ U.vm.findClass ("[" ++ (aty k).toString) = some (cA k) ∧ ((aty k).isReference = true → U.vm.findClass (cnm (aty k)) = some comp)
def KO (D : va_G) (cA : Nat → ClassId) (U : State) : Prop := va_K D vwCl [] U ∧ KA cA U
theorem KO.moved {D : va_G} {cA : Nat → ClassId} {u U : State} (hvm : u.vm.Alike U.vm) (h : KO D cA u) : KO D cA U := by
  refine ⟨va_K.moved hvm h.1, fun k h1 h2 => ?_⟩
  obtain ⟨kA, comp, a1, a2, a3, a4⟩ := h.2 k h1 h2
  obtain ⟨k', hk', he⟩ := hvm.2.2 _ _ a1
  exact ⟨k', comp, hk', by rw [he]; exact a2, by rw [hvm.findClass]; exact a3, fun hr => by rw [hvm.findClass]; exact a4 hr⟩
theorem KO.arr {D : va_G} {cA : Nat → ClassId} {U : State} (h : KO D cA U) {k : Nat} (h1 : 100 ≤ k) (h2 : k < 108) : ArrOfT U (cA k) (aty k) := by
  obtain ⟨kA, comp, a1, a2, -⟩ := h.2 k h1 h2
  exact fun n z => ⟨(fun k h => by cases h), kA, a1, comp, a2⟩
theorem vwCl_lt {k : Nat} {r : vw_C} (h : vwCl[k]? = some r) : k < 100 := by
  have h1 : k < vwCl.length := (List.getElem?_eq_some_iff.mp h).1
  have h2 : vwCl.length = 13 := rfl
  omega
end U06heap
section U07ws
/-! ONE STEP OF A WALK, over the picture of the heap -/
def HS (D : va_G) (cA : Nat → ClassId) (B0 : Nat) (s : State) (h : AH) (H : Heap) (locs : List Loc) : Prop := Rp D cA B0 h H ∧ va_S (fun q : Nat => B0 ≤ q) s.heap H locs
def lget (l : List (Nat × Value)) (i : Nat) : Option Value := match l with
  | [] => none
  | q :: r => if q.1 = i then some q.2 else lget r i
theorem lget_mem : ∀ (l : List (Nat × Value)) {i : Nat} {v : Value}, lget l i = some v → (i, v) ∈ l
  | [], i, v, h => by simp [lget] at h
  | q :: r, i, v, h => by
    unfold lget at h
    split at h
    · rename_i e
      cases h
      subst e
      exact List.mem_cons_self
    · exact List.mem_cons_of_mem _ (lget_mem r h)
def lset1 (l : List (Nat × Value)) (i : Nat) (v : Value) : List (Nat × Value) := (i, v) :: l.filter (fun q => !(q.1 == i) && !(q.1 + 1 == i && q.2.category == 2))
def lset2 (l : List (Nat × Value)) (i : Nat) (v : Value) : List (Nat × Value) := (i, v) :: l.filter (fun q => !(q.1 == i) && (!(q.1 == i + 1) && !(q.1 + 1 == i && q.2.category == 2)))
theorem lget_at {ls : Array Slot} {nL : Nat} {l : List (Nat × Value)} {i : Nat} {v : Value} (hl : lv_has ls nL l) (h : lget l i = some v) : ls[i]? = some (.val v) := hl.2.2 (i, v) (lget_mem l h)
section WS
variable {p : Program} {la : Launch} {e : Env} {R : Room} {s : State} {m : MethodId} {args : Array Value} {below : List Frame} {meth : Method} {c : Code} {Q : State → Prop}
variable {D : va_G} {cA : Nat → ClassId} {B0 nL : Nat} {cc : ByteArray} {own : String}
/-- from here the method comes to its end: program counter, locals, stack, heap, cells and slots made so far -/
def WS (p : Program) (la : Launch) (e : Env) (R : Room) (s : State) (m : MethodId) (args : Array Value) (below : List Frame) (meth : Method) (c : Code) (Q : State → Prop) (D : va_G) (cA : Nat → ClassId) (B0 nL : Nat)
    (pc : Nat) (l : List (Nat × Value)) (st : List Value) (h : AH) (k n : Nat) : Prop :=
  ∀ (H : Heap) (locs : List Loc) (ls : Array Slot), HS D cA B0 s h H locs → lv_has ls nL l → W p la e R s m args below meth c H locs k n Q (F0 m pc ls st)
/-- what stays so all through a method -/
def CX (p : Program) (s : State) (m : MethodId) (args : Array Value) (c : Code) (D : va_G) (cA : Nat → ClassId) (B0 nL : Nat) (cc : ByteArray) (own : String) : Prop :=
  p.tables.exec = Jvm.exec ∧ c.code = cc ∧ c.maxLocals = nL ∧ s.vm.findClass own = some m.cls ∧ (∀ w ∈ WT, w.before args s = true) ∧ KO D cA s ∧ B0 ≤ s.heap.size
/-- frame-only instructions -/
def fst1 (nL : Nat) (i : Instr) (l : List (Nat × Value)) (st : List Value) : Option (Nat × List (Nat × Value) × List Value) :=
  match i with
  | .iconst n => some (1, l, .int (Int32.ofInt n) :: st)
  | .bipush n => some (2, l, .int (Int8.ofInt n).toInt32 :: st)
  | .sipush n => some (3, l, .int (Int16.ofInt n).toInt32 :: st)
  | .lconst n => some (1, l, .long (Int64.ofNat (n : Nat)) :: st)
  | .aconst_null => some (1, l, .null :: st)
  | .iload_n j => match lget l j with | some (.int x) => some (1, l, .int x :: st) | _ => none
  | .iload j => match lget l j with | some (.int x) => some (2, l, .int x :: st) | _ => none
  | .lload_n j => match lget l j with | some (.long x) => some (1, l, .long x :: st) | _ => none
  | .lload j => match lget l j with | some (.long x) => some (2, l, .long x :: st) | _ => none
  | .aload_n j => match lget l j with | some (.ref x) => some (1, l, .ref x :: st) | some .null => some (1, l, .null :: st) | _ => none
  | .aload j => match lget l j with | some (.ref x) => some (2, l, .ref x :: st) | some .null => some (2, l, .null :: st) | _ => none
  | .istore_n j => match st with | .int x :: r => if (j : Nat) < nL then some (1, lset1 l j (.int x), r) else none | _ => none
  | .istore j => match st with | .int x :: r => if j < nL then some (2, lset1 l j (.int x), r) else none | _ => none
  | .lstore_n j => match st with | .long x :: r => if (j : Nat) + 1 < nL then some (1, lset2 l j (.long x), r) else none | _ => none
  | .lstore j => match st with | .long x :: r => if j + 1 < nL then some (2, lset2 l j (.long x), r) else none | _ => none
  | .astore_n j => match st with | .ref x :: r => (if (j : Nat) < nL then some (1, lset1 l j (.ref x), r) else none) | .null :: r => (if (j : Nat) < nL then some (1, lset1 l j .null, r) else none) | _ => none
  | .astore j => match st with | .ref x :: r => (if j < nL then some (2, lset1 l j (.ref x), r) else none) | .null :: r => (if j < nL then some (2, lset1 l j .null, r) else none) | _ => none
  | .iinc j d => match lget l j with | some (.int x) => (if j < nL then some (3, lset1 l j (.int (x + Int32.ofInt d)), st) else none) | _ => none
  | .iadd => match st with | .int y :: .int x :: r => some (1, l, .int (x + y) :: r) | _ => none
  | .isub => match st with | .int y :: .int x :: r => some (1, l, .int (x - y) :: r) | _ => none
  | .imul => match st with | .int y :: .int x :: r => some (1, l, .int (x * y) :: r) | _ => none
  | .iand => match st with | .int y :: .int x :: r => some (1, l, .int (x &&& y) :: r) | _ => none
  | .ior => match st with | .int y :: .int x :: r => some (1, l, .int (x ||| y) :: r) | _ => none
  | .ixor => match st with | .int y :: .int x :: r => some (1, l, .int (x ^^^ y) :: r) | _ => none
  | .ineg => match st with | .int x :: r => some (1, l, .int (-x) :: r) | _ => none
  | .ishl => match st with | .int y :: .int x :: r => some (1, l, .int (x <<< (y &&& 31)) :: r) | _ => none
  | .ishr => match st with | .int y :: .int x :: r => some (1, l, .int (x >>> (y &&& 31)) :: r) | _ => none
  | .iushr => match st with | .int y :: .int x :: r => some (1, l, .int (x.toUInt32 >>> (y.toUInt32 &&& Int32.toUInt32 31)).toInt32 :: r) | _ => none
  | .i2l => match st with | .int x :: r => some (1, l, .long x.toInt64 :: r) | _ => none
  | .l2i => match st with | .long x :: r => some (1, l, .int x.toInt32 :: r) | _ => none
  | .i2c => match st with | .int x :: r => some (1, l, .int (x.toUInt32 % 65536).toInt32 :: r) | _ => none
  | .ladd => match st with | .long y :: .long x :: r => some (1, l, .long (x + y) :: r) | _ => none
  | .lmul => match st with | .long y :: .long x :: r => some (1, l, .long (x * y) :: r) | _ => none
  | .land => match st with | .long y :: .long x :: r => some (1, l, .long (x &&& y) :: r) | _ => none
  | .lor => match st with | .long y :: .long x :: r => some (1, l, .long (x ||| y) :: r) | _ => none
  | .lshl => match st with | .int y :: .long x :: r => some (1, l, .long (x <<< (y.toInt64 &&& 63)) :: r) | _ => none
  | .lshr => match st with | .int y :: .long x :: r => some (1, l, .long (x >>> (y.toInt64 &&& 63)) :: r) | _ => none
  | .idiv => match st with | .int y :: .int x :: r => (if y = 0 then none else some (1, l, .int (x / y) :: r)) | _ => none
  | .irem => match st with | .int y :: .int x :: r => (if y = 0 then none else some (1, l, .int (x - x / y * y) :: r)) | _ => none
  | .dup => match st with | v :: r => (if v.category = 1 then some (1, l, v :: v :: r) else none) | _ => none
  | .dup_x1 => match st with | v :: w :: r => (if v.category = 1 ∧ w.category = 1 then some (1, l, v :: w :: v :: r) else none) | _ => none
  | .pop => match st with | v :: r => (if v.category = 1 then some (1, l, r) else none) | _ => none
  | .pop2 => match st with | v :: r => (if v.category = 2 then some (1, l, r) else none) | _ => none
  | _ => none
set_option maxHeartbeats 4000000 in
theorem fst1_ok (X : CX p s m args c D cA B0 nL cc own) {i : Instr} {len pc k n : Nat} {l l' : List (Nat × Value)} {st st' : List Value} {h : AH} (hd : decode cc pc = .ok (i, len)) (hs : fst1 nL i l st = some (len, l', st'))
    (kk : WS p la e R s m args below meth c Q D cA B0 nL (pc + len) l' st' h k n) : WS p la e R s m args below meth c Q D cA B0 nL pc l st h k n := by
  obtain ⟨hx, hb, -⟩ := X
  intro H locs ls hH hl
  cases i
  case iconst =>
    simp only [fst1] at hs
    repeat' split at hs
    all_goals simp only [Option.some.injEq, Prod.mk.injEq, reduceCtorEq] at hs
    all_goals obtain ⟨rfl, rfl, rfl⟩ := hs
    · exact lv_iconst hx hb hd rfl (kk H locs ls hH hl)
  case bipush =>
    simp only [fst1] at hs
    repeat' split at hs
    all_goals simp only [Option.some.injEq, Prod.mk.injEq, reduceCtorEq] at hs
    all_goals obtain ⟨rfl, rfl, rfl⟩ := hs
    · exact lv_bipush hx hb hd rfl (kk H locs ls hH hl)
  case sipush =>
    simp only [fst1] at hs
    repeat' split at hs
    all_goals simp only [Option.some.injEq, Prod.mk.injEq, reduceCtorEq] at hs
    all_goals obtain ⟨rfl, rfl, rfl⟩ := hs
    · exact lv_sipush hx hb hd rfl (kk H locs ls hH hl)
  case lconst =>
    simp only [fst1] at hs
    repeat' split at hs
    all_goals simp only [Option.some.injEq, Prod.mk.injEq, reduceCtorEq] at hs
    all_goals obtain ⟨rfl, rfl, rfl⟩ := hs
    · exact lv_lconst hx hb hd rfl (kk H locs ls hH hl)
  case aconst_null =>
    simp only [fst1] at hs
    repeat' split at hs
    all_goals simp only [Option.some.injEq, Prod.mk.injEq, reduceCtorEq] at hs
    all_goals obtain ⟨rfl, rfl, rfl⟩ := hs
    · exact lv_null hx hb hd (kk H locs ls hH hl)
  case iload =>
    simp only [fst1] at hs
    repeat' split at hs
    all_goals simp only [Option.some.injEq, Prod.mk.injEq, reduceCtorEq] at hs
    all_goals obtain ⟨rfl, rfl, rfl⟩ := hs
    · exact lv_iload hx hb hd (lget_at hl (by assumption)) (kk H locs ls hH hl)
  case iload_n =>
    simp only [fst1] at hs
    repeat' split at hs
    all_goals simp only [Option.some.injEq, Prod.mk.injEq, reduceCtorEq] at hs
    all_goals obtain ⟨rfl, rfl, rfl⟩ := hs
    · exact lv_iload_n hx hb hd rfl (lget_at hl (by assumption)) (kk H locs ls hH hl)
  case lload =>
    simp only [fst1] at hs
    repeat' split at hs
    all_goals simp only [Option.some.injEq, Prod.mk.injEq, reduceCtorEq] at hs
    all_goals obtain ⟨rfl, rfl, rfl⟩ := hs
    · exact lv_lload hx hb hd (lget_at hl (by assumption)) (kk H locs ls hH hl)
  case lload_n =>
    simp only [fst1] at hs
    repeat' split at hs
    all_goals simp only [Option.some.injEq, Prod.mk.injEq, reduceCtorEq] at hs
    all_goals obtain ⟨rfl, rfl, rfl⟩ := hs
    · exact lv_lload_n hx hb hd rfl (lget_at hl (by assumption)) (kk H locs ls hH hl)
  case aload =>
    simp only [fst1] at hs
    repeat' split at hs
    all_goals simp only [Option.some.injEq, Prod.mk.injEq, reduceCtorEq] at hs
    all_goals obtain ⟨rfl, rfl, rfl⟩ := hs
    · exact lv_aload hx hb hd (lget_at hl (by assumption)) (kk H locs ls hH hl)
    · exact lv_aloadN hx hb hd (lget_at hl (by assumption)) (kk H locs ls hH hl)
  case aload_n =>
    simp only [fst1] at hs
    repeat' split at hs
    all_goals simp only [Option.some.injEq, Prod.mk.injEq, reduceCtorEq] at hs
    all_goals obtain ⟨rfl, rfl, rfl⟩ := hs
    · exact lv_aload_n hx hb hd rfl (lget_at hl (by assumption)) (kk H locs ls hH hl)
    · exact lv_aload_nN hx hb hd rfl (lget_at hl (by assumption)) (kk H locs ls hH hl)
  case istore =>
    simp only [fst1] at hs
    repeat' split at hs
    all_goals simp only [Option.some.injEq, Prod.mk.injEq, reduceCtorEq] at hs
    all_goals obtain ⟨rfl, rfl, rfl⟩ := hs
    · exact lv_istore hx hb hd hl (by assumption) rfl (fun ls' hl' => kk H locs ls' hH hl')
  case istore_n =>
    simp only [fst1] at hs
    repeat' split at hs
    all_goals simp only [Option.some.injEq, Prod.mk.injEq, reduceCtorEq] at hs
    all_goals obtain ⟨rfl, rfl, rfl⟩ := hs
    · exact lv_istore_n hx hb hd rfl hl (by assumption) rfl (fun ls' hl' => kk H locs ls' hH hl')
  case lstore =>
    simp only [fst1] at hs
    repeat' split at hs
    all_goals simp only [Option.some.injEq, Prod.mk.injEq, reduceCtorEq] at hs
    all_goals obtain ⟨rfl, rfl, rfl⟩ := hs
    · exact lv_lstore hx hb hd hl (by assumption) rfl (fun ls' hl' => kk H locs ls' hH hl')
  case lstore_n =>
    simp only [fst1] at hs
    repeat' split at hs
    all_goals simp only [Option.some.injEq, Prod.mk.injEq, reduceCtorEq] at hs
    all_goals obtain ⟨rfl, rfl, rfl⟩ := hs
    · exact lv_lstore_n hx hb hd rfl hl (by assumption) rfl (fun ls' hl' => kk H locs ls' hH hl')
  case astore =>
    simp only [fst1] at hs
    repeat' split at hs
    all_goals simp only [Option.some.injEq, Prod.mk.injEq, reduceCtorEq] at hs
    all_goals obtain ⟨rfl, rfl, rfl⟩ := hs
    · exact lv_astore hx hb hd hl (by assumption) rfl (fun ls' hl' => kk H locs ls' hH hl')
    · exact lv_astoreN hx hb hd hl (by assumption) rfl (fun ls' hl' => kk H locs ls' hH hl')
  case astore_n =>
    simp only [fst1] at hs
    repeat' split at hs
    all_goals simp only [Option.some.injEq, Prod.mk.injEq, reduceCtorEq] at hs
    all_goals obtain ⟨rfl, rfl, rfl⟩ := hs
    · exact lv_astore_n hx hb hd rfl hl (by assumption) rfl (fun ls' hl' => kk H locs ls' hH hl')
    · exact lv_astore_nN hx hb hd rfl hl (by assumption) rfl (fun ls' hl' => kk H locs ls' hH hl')
  case iinc =>
    simp only [fst1] at hs
    repeat' split at hs
    all_goals simp only [Option.some.injEq, Prod.mk.injEq, reduceCtorEq] at hs
    all_goals obtain ⟨rfl, rfl, rfl⟩ := hs
    · rename_i hg hn
      obtain ⟨kx, hkx⟩ := List.getElem?_of_mem (lget_mem l hg)
      exact lv_iinc hx hb hd hl hkx rfl hn rfl (fun ls' hl' => kk H locs ls' hH hl')
  case iadd =>
    simp only [fst1] at hs
    repeat' split at hs
    all_goals simp only [Option.some.injEq, Prod.mk.injEq, reduceCtorEq] at hs
    all_goals obtain ⟨rfl, rfl, rfl⟩ := hs
    · exact lv_iadd hx hb hd (kk H locs ls hH hl)
  case isub =>
    simp only [fst1] at hs
    repeat' split at hs
    all_goals simp only [Option.some.injEq, Prod.mk.injEq, reduceCtorEq] at hs
    all_goals obtain ⟨rfl, rfl, rfl⟩ := hs
    · exact lv_isub hx hb hd (kk H locs ls hH hl)
  case imul =>
    simp only [fst1] at hs
    repeat' split at hs
    all_goals simp only [Option.some.injEq, Prod.mk.injEq, reduceCtorEq] at hs
    all_goals obtain ⟨rfl, rfl, rfl⟩ := hs
    · exact lv_imul hx hb hd (kk H locs ls hH hl)
  case iand =>
    simp only [fst1] at hs
    repeat' split at hs
    all_goals simp only [Option.some.injEq, Prod.mk.injEq, reduceCtorEq] at hs
    all_goals obtain ⟨rfl, rfl, rfl⟩ := hs
    · exact lv_iand hx hb hd (kk H locs ls hH hl)
  case ior =>
    simp only [fst1] at hs
    repeat' split at hs
    all_goals simp only [Option.some.injEq, Prod.mk.injEq, reduceCtorEq] at hs
    all_goals obtain ⟨rfl, rfl, rfl⟩ := hs
    · exact lv_ior hx hb hd (kk H locs ls hH hl)
  case ixor =>
    simp only [fst1] at hs
    repeat' split at hs
    all_goals simp only [Option.some.injEq, Prod.mk.injEq, reduceCtorEq] at hs
    all_goals obtain ⟨rfl, rfl, rfl⟩ := hs
    · exact lv_ixor hx hb hd (kk H locs ls hH hl)
  case ineg =>
    simp only [fst1] at hs
    repeat' split at hs
    all_goals simp only [Option.some.injEq, Prod.mk.injEq, reduceCtorEq] at hs
    all_goals obtain ⟨rfl, rfl, rfl⟩ := hs
    · exact lv_ineg hx hb hd (kk H locs ls hH hl)
  case ishl =>
    simp only [fst1] at hs
    repeat' split at hs
    all_goals simp only [Option.some.injEq, Prod.mk.injEq, reduceCtorEq] at hs
    all_goals obtain ⟨rfl, rfl, rfl⟩ := hs
    · exact lv_ishl hx hb hd (kk H locs ls hH hl)
  case ishr =>
    simp only [fst1] at hs
    repeat' split at hs
    all_goals simp only [Option.some.injEq, Prod.mk.injEq, reduceCtorEq] at hs
    all_goals obtain ⟨rfl, rfl, rfl⟩ := hs
    · exact lv_ishr hx hb hd (kk H locs ls hH hl)
  case ladd =>
    simp only [fst1] at hs
    repeat' split at hs
    all_goals simp only [Option.some.injEq, Prod.mk.injEq, reduceCtorEq] at hs
    all_goals obtain ⟨rfl, rfl, rfl⟩ := hs
    · exact lv_ladd hx hb hd (kk H locs ls hH hl)
  case lmul =>
    simp only [fst1] at hs
    repeat' split at hs
    all_goals simp only [Option.some.injEq, Prod.mk.injEq, reduceCtorEq] at hs
    all_goals obtain ⟨rfl, rfl, rfl⟩ := hs
    · exact lv_lmul hx hb hd (kk H locs ls hH hl)
  case land =>
    simp only [fst1] at hs
    repeat' split at hs
    all_goals simp only [Option.some.injEq, Prod.mk.injEq, reduceCtorEq] at hs
    all_goals obtain ⟨rfl, rfl, rfl⟩ := hs
    · exact lv_land hx hb hd (kk H locs ls hH hl)
  case lor =>
    simp only [fst1] at hs
    repeat' split at hs
    all_goals simp only [Option.some.injEq, Prod.mk.injEq, reduceCtorEq] at hs
    all_goals obtain ⟨rfl, rfl, rfl⟩ := hs
    · exact lv_lor hx hb hd (kk H locs ls hH hl)
  case iushr =>
    simp only [fst1] at hs
    repeat' split at hs
    all_goals simp only [Option.some.injEq, Prod.mk.injEq, reduceCtorEq] at hs
    all_goals obtain ⟨rfl, rfl, rfl⟩ := hs
    · exact lv_iushr hx hb hd rfl (kk H locs ls hH hl)
  case i2l =>
    simp only [fst1] at hs
    repeat' split at hs
    all_goals simp only [Option.some.injEq, Prod.mk.injEq, reduceCtorEq] at hs
    all_goals obtain ⟨rfl, rfl, rfl⟩ := hs
    · exact lv_i2l hx hb hd rfl (kk H locs ls hH hl)
  case l2i =>
    simp only [fst1] at hs
    repeat' split at hs
    all_goals simp only [Option.some.injEq, Prod.mk.injEq, reduceCtorEq] at hs
    all_goals obtain ⟨rfl, rfl, rfl⟩ := hs
    · exact lv_l2i hx hb hd rfl (kk H locs ls hH hl)
  case i2c =>
    simp only [fst1] at hs
    repeat' split at hs
    all_goals simp only [Option.some.injEq, Prod.mk.injEq, reduceCtorEq] at hs
    all_goals obtain ⟨rfl, rfl, rfl⟩ := hs
    · exact lv_i2c hx hb hd rfl (kk H locs ls hH hl)
  case lshl =>
    simp only [fst1] at hs
    repeat' split at hs
    all_goals simp only [Option.some.injEq, Prod.mk.injEq, reduceCtorEq] at hs
    all_goals obtain ⟨rfl, rfl, rfl⟩ := hs
    · exact lv_lshl hx hb hd rfl (kk H locs ls hH hl)
  case lshr =>
    simp only [fst1] at hs
    repeat' split at hs
    all_goals simp only [Option.some.injEq, Prod.mk.injEq, reduceCtorEq] at hs
    all_goals obtain ⟨rfl, rfl, rfl⟩ := hs
    · exact lv_lshr hx hb hd rfl (kk H locs ls hH hl)
  case idiv =>
    simp only [fst1] at hs
    repeat' split at hs
    all_goals simp only [Option.some.injEq, Prod.mk.injEq, reduceCtorEq] at hs
    all_goals obtain ⟨rfl, rfl, rfl⟩ := hs
    · exact lv_idiv hx hb hd (by assumption) (kk H locs ls hH hl)
  case irem =>
    simp only [fst1] at hs
    repeat' split at hs
    all_goals simp only [Option.some.injEq, Prod.mk.injEq, reduceCtorEq] at hs
    all_goals obtain ⟨rfl, rfl, rfl⟩ := hs
    · exact lv_irem hx hb hd (by assumption) (kk H locs ls hH hl)
  case dup =>
    simp only [fst1] at hs
    repeat' split at hs
    all_goals simp only [Option.some.injEq, Prod.mk.injEq, reduceCtorEq] at hs
    all_goals obtain ⟨rfl, rfl, rfl⟩ := hs
    · exact lv_dup hx hb hd (by assumption) (kk H locs ls hH hl)
  case pop =>
    simp only [fst1] at hs
    repeat' split at hs
    all_goals simp only [Option.some.injEq, Prod.mk.injEq, reduceCtorEq] at hs
    all_goals obtain ⟨rfl, rfl, rfl⟩ := hs
    · exact lv_pop hx hb hd (by assumption) (kk H locs ls hH hl)
  case pop2 =>
    simp only [fst1] at hs
    repeat' split at hs
    all_goals simp only [Option.some.injEq, Prod.mk.injEq, reduceCtorEq] at hs
    all_goals obtain ⟨rfl, rfl, rfl⟩ := hs
    · exact lv_pop2_2 hx hb hd (by assumption) (kk H locs ls hH hl)
  case dup_x1 =>
    simp only [fst1] at hs
    repeat' split at hs
    all_goals simp only [Option.some.injEq, Prod.mk.injEq, reduceCtorEq] at hs
    all_goals obtain ⟨rfl, rfl, rfl⟩ := hs
    · rename_i hg
      exact lv_dup_x1 hx hb hd hg.1 hg.2 (kk H locs ls hH hl)
  all_goals simp only [fst1, reduceCtorEq] at hs
end WS
end U07ws
section U08ops
/-! THE SINGLE STEPS: branches, fields, arrays, making -/
/-- a field by its pool number: its class's place in vwCl, its own place -/
def FL (own : String) (idx ci kf : Nat) : Prop := ∃ (C : String) (T : u_T) (N : Nat) (ty : Nat → FieldType), vwCl[ci]? = some (C, T, N) ∧ (∀ w ∈ u_ws C T N, w ∈ WT) ∧ kf < N ∧ Cond.fieldLink own idx C (T kf).2.1 (T kf).2.2.1 ∈ WT ∧ (T kf).1 = C ∧
  (∀ k, k < N → parseFieldDescriptor (T k).2.2.1 = some (ty k)) ∧ (∀ a, a < N → ∀ b, b < N → a ≠ b → (T a).2.1 ≠ (T b).2.1)
/-- the type of a field, and whether it is final -/
def FT (ci kf : Nat) (ty : FieldType) (fin : Bool) : Prop := ∃ (C : String) (T : u_T) (N : Nat), vwCl[ci]? = some (C, T, N) ∧ parseFieldDescriptor (T kf).2.2.1 = some ty ∧ (T kf).2.2.2 = fin
/-- a branch: when, by how much, what stays on the stack -/
def cbr (i : Instr) (st : List Value) : Option (Prop × Int × List Value) := match i with
  | .goto off => some (True, off, st)
  | .ifCond .eq off => match st with | .int x :: r => some (x = 0, off, r) | _ => none
  | .ifCond .ne off => match st with | .int x :: r => some (¬ x = 0, off, r) | _ => none
  | .ifCond .lt off => match st with | .int x :: r => some (x < 0, off, r) | _ => none
  | .ifCond .ge off => match st with | .int x :: r => some (0 ≤ x, off, r) | _ => none
  | .ifCond .gt off => match st with | .int x :: r => some (0 < x, off, r) | _ => none
  | .ifCond .le off => match st with | .int x :: r => some (x ≤ 0, off, r) | _ => none
  | .if_icmp .eq off => match st with | .int y :: .int x :: r => some (x = y, off, r) | _ => none
  | .if_icmp .ne off => match st with | .int y :: .int x :: r => some (¬ x = y, off, r) | _ => none
  | .if_icmp .lt off => match st with | .int y :: .int x :: r => some (x < y, off, r) | _ => none
  | .if_icmp .ge off => match st with | .int y :: .int x :: r => some (y ≤ x, off, r) | _ => none
  | .if_icmp .gt off => match st with | .int y :: .int x :: r => some (y < x, off, r) | _ => none
  | .if_icmp .le off => match st with | .int y :: .int x :: r => some (x ≤ y, off, r) | _ => none
  | .if_acmp .eq off => match st with | .ref y :: .ref x :: r => some (x = y, off, r) | _ => none
  | .if_acmp .ne off => match st with | .ref y :: .ref x :: r => some (¬ x = y, off, r) | _ => none
  | .ifnull off => match st with | .ref _ :: r => some (False, off, r) | .null :: r => some (True, off, r) | _ => none
  | .ifnonnull off => match st with | .ref _ :: r => some (True, off, r) | .null :: r => some (False, off, r) | _ => none
  | _ => none
section OPS
variable {p : Program} {la : Launch} {e : Env} {R : Room} {s : State} {m : MethodId} {args : Array Value} {below : List Frame} {meth : Method} {c : Code} {Q : State → Prop}
variable {D : va_G} {cA : Nat → ClassId} {B0 nL : Nat} {cc : ByteArray} {own : String} {pc k n : Nat} {l : List (Nat × Value)} {r : List Value} {h : AH}
set_option maxHeartbeats 4000000 in
theorem br_ok (X : CX p s m args c D cA B0 nL cc own) {i : Instr} {st : List Value} {P : Prop} {off : Int} {tgt : Nat} (hd : decode cc pc = .ok (i, 3)) (hs : cbr i st = some (P, off, r)) (ht : (pc : Int) + off = (tgt : Int))
    (kt : P → WS p la e R s m args below meth c Q D cA B0 nL tgt l r h k n) (kf : ¬ P → WS p la e R s m args below meth c Q D cA B0 nL (pc + 3) l r h k n) : WS p la e R s m args below meth c Q D cA B0 nL pc l st h k n := by
  obtain ⟨hx, hb, -⟩ := X
  intro H locs ls hH hl
  cases i
  case goto =>
    simp only [cbr, Option.some.injEq, Prod.mk.injEq] at hs
    obtain ⟨rfl, rfl, rfl⟩ := hs
    exact lv_goto hx hb hd ht (kt trivial H locs ls hH hl)
  case ifCond cnd o =>
    cases cnd <;> simp only [cbr] at hs <;> split at hs <;> simp only [Option.some.injEq, Prod.mk.injEq, reduceCtorEq] at hs <;> obtain ⟨rfl, rfl, rfl⟩ := hs
    · exact lv_if_eq hx hb hd ht (fun q => kt q H locs ls hH hl) (fun q => kf q H locs ls hH hl)
    · exact lv_if_ne hx hb hd ht (fun q => kt q H locs ls hH hl) (fun q => kf (fun z => z q) H locs ls hH hl)
    · exact lv_if_lt hx hb hd ht (fun q => kt q H locs ls hH hl) (fun q => kf q H locs ls hH hl)
    · exact lv_if_ge hx hb hd ht (fun q => kt q H locs ls hH hl) (fun q => kf q H locs ls hH hl)
    · exact lv_if_gt hx hb hd ht (fun q => kt q H locs ls hH hl) (fun q => kf q H locs ls hH hl)
    · exact lv_if_le hx hb hd ht (fun q => kt q H locs ls hH hl) (fun q => kf q H locs ls hH hl)
  case if_icmp cnd o =>
    cases cnd <;> simp only [cbr] at hs <;> split at hs <;> simp only [Option.some.injEq, Prod.mk.injEq, reduceCtorEq] at hs <;> obtain ⟨rfl, rfl, rfl⟩ := hs
    · exact lv_icmp_eq hx hb hd ht (fun q => kt q H locs ls hH hl) (fun q => kf q H locs ls hH hl)
    · exact lv_icmp_ne hx hb hd ht (fun q => kt q H locs ls hH hl) (fun q => kf (fun z => z q) H locs ls hH hl)
    · exact lv_icmp_lt hx hb hd ht (fun q => kt q H locs ls hH hl) (fun q => kf q H locs ls hH hl)
    · exact lv_icmp_ge hx hb hd ht (fun q => kt q H locs ls hH hl) (fun q => kf q H locs ls hH hl)
    · exact lv_icmp_gt hx hb hd ht (fun q => kt q H locs ls hH hl) (fun q => kf q H locs ls hH hl)
    · exact lv_icmp_le hx hb hd ht (fun q => kt q H locs ls hH hl) (fun q => kf q H locs ls hH hl)
  case if_acmp cnd o =>
    cases cnd <;> simp only [cbr] at hs <;> split at hs <;> simp only [Option.some.injEq, Prod.mk.injEq, reduceCtorEq] at hs <;> obtain ⟨rfl, rfl, rfl⟩ := hs
    · rename_i y x _
      exact lv_acmp_eq (rx := some x) (ry := some y) hx hb hd ht (fun q => kt (Option.some.inj q) H locs ls hH hl) (fun q => kf (fun z => q (congrArg some z)) H locs ls hH hl)
    · rename_i y x _
      exact lv_acmp_ne (rx := some x) (ry := some y) hx hb hd ht (fun q => kt (fun z => q (congrArg some z)) H locs ls hH hl) (fun q => kf (fun z => z (Option.some.inj q)) H locs ls hH hl)
  case ifnull =>
    simp only [cbr] at hs
    split at hs <;> simp only [Option.some.injEq, Prod.mk.injEq, reduceCtorEq] at hs <;> obtain ⟨rfl, rfl, rfl⟩ := hs
    · exact lv_ifnull hx hb hd (kf (fun z => z) H locs ls hH hl)
    · exact lv_ifnullN hx hb hd ht (kt trivial H locs ls hH hl)
  case ifnonnull =>
    simp only [cbr] at hs
    split at hs <;> simp only [Option.some.injEq, Prod.mk.injEq, reduceCtorEq] at hs <;> obtain ⟨rfl, rfl, rfl⟩ := hs
    · exact lv_ifnonnull hx hb hd ht (kt trivial H locs ls hH hl)
    · exact lv_ifnonnullN hx hb hd (kf (fun z => z) H locs ls hH hl)
  all_goals simp only [cbr, reduceCtorEq] at hs
theorem getf_ok (X : CX p s m args c D cA B0 nL cc own) {idx ci kf a : Nat} {fs : List Value} {v : Value} (hF : FL own idx ci kf) (hd : decode cc pc = .ok (.getfield idx, 3)) (ha : h a = some (ci, fs)) (hv : fs[kf]? = some v)
    (kk : WS p la e R s m args below meth c Q D cA B0 nL (pc + 3) l (v :: r) h k n) : WS p la e R s m args below meth c Q D cA B0 nL pc l (.ref a :: r) h k n := by
  obtain ⟨hx, hb, hml, hown, hts, hK, hB⟩ := X
  obtain ⟨C, T, N, ty, hc, hin, hk, hl, hC, hty, hnm⟩ := hF
  intro H locs ls hH hls
  obtain ⟨r0, h1, h2, cell, q1, q2, q3, q4⟩ := (hH.1 a _ ha).2.1 (vwCl_lt hc)
  have hr : r0 = (C, T, N) := Option.some.inj (h1.symm.trans hc)
  subst hr
  obtain ⟨hS, hfc, kC, hkC, hkind⟩ := hK.1.1 ci _ hc
  obtain ⟨cf, kf0, fi, f, hi, hsl⟩ := hS kf hk
  refine W.getf hx hb hown (hts _ hl) (by rw [← hC]; exact hi) (u_facts hfc hkC (u_lays hts hin hk) hi).1 q1 (by rw [q3]; exact fun h => by cases h) (v := v) ?_ rfl rfl hd (kk H locs ls hH hls)
  rw [hsl, q4 kf hk]
  simp [vp_V, hv]
theorem putf_ok (X : CX p s m args c D cA B0 nL cc own) {idx ci kf a : Nat} {fs : List Value} {v : Value} {ty : FieldType} {fin : Bool} (hF : FL own idx ci kf) (hT : FT ci kf ty fin) (hfin : fin = false ∨ (meth.name = "<init>" ∧ ∃ C T N, vwCl[ci]? = some (C, T, N) ∧ own = C))
    (hn : narrow ty v = v) (hfit : fits ty v = true) (hd : decode cc pc = .ok (.putfield idx, 3)) (ha : h a = some (ci, fs)) (hl0 : kf < fs.length)
    (kk : WS p la e R s m args below meth c Q D cA B0 nL (pc + 3) l r (hup h a (ci, fs.set kf v)) k n) : WS p la e R s m args below meth c Q D cA B0 nL pc l (v :: .ref a :: r) h k n := by
  obtain ⟨hx, hb, hml, hown, hts, hK, hB⟩ := X
  obtain ⟨C, T, N, ty0, hc, hin, hk, hl, hC, hty, hnm⟩ := hF
  obtain ⟨C', T', N', hc', hdt, hfn⟩ := hT
  cases hc.symm.trans hc'
  intro H locs ls hH hls
  obtain ⟨r0, h1, h2, cell, q1, q2, q3, q4⟩ := (hH.1 a _ ha).2.1 (vwCl_lt hc)
  have hr : r0 = (C, T, N) := Option.some.inj (h1.symm.trans hc)
  subst hr
  have hap := va_apart (own := own) hts hin ty0 hty hnm hK.1 hc
  obtain ⟨hS, hfc, kC, hkC, hkind⟩ := hK.1.1 ci _ hc
  obtain ⟨cf, kf0, fi, f, hi, hsl⟩ := hS kf hk
  have hlay := hts _ (hin _ (u_in_lay hk))
  have hst := (u_facts hfc hkC (u_lays hts hin hk) hi).1
  have fin' : ∀ (H1 : Heap), H1[a]? = some (cell.setSlot f.slot v) → H1.size = H.size → (∀ q, q ≠ a → H1[q]? = H[q]?) → W p la e R s m args below meth c H1 (locs ++ [⟨a, f.slot⟩]) k n Q (F0 m (pc + 3) ls r) := by
    intro H1 e1 e2 e3
    rw [hsl] at e1 ⊢
    refine kk H1 _ ls ⟨hH.1.put ha ⟨fun _ => ⟨_, hc, by simpa using h2, t_OB.to (V := updV (vp_V fs) kf v) ⟨_, e1, q2, q3, t_set q4 hap hk v⟩ (fun j _ => vp_updV_set hl0 v j)⟩, fun z => absurd (vwCl_lt hc) z⟩ e3, hH.2.put e2 e3 (hH.1 a _ ha).1⟩ hls
  unfold u_lay at hlay
  cases fin with
  | false =>
    rw [if_neg (by rw [hfn]; decide)] at hlay
    have h6 := u_store hfc hkC hkind hlay hi hdt hn hfit
    exact W.putK hx hb (f := f) ⟨hown, hts _ hl, ⟨_, _, _, by rw [← hC]; exact hi⟩, hst⟩ (by rw [q2]; exact h6) q1 q3 (by rw [hsl]; exact k2_hasslot (q4 kf hk)) rfl rfl hd fin'
  | true =>
    obtain ⟨hin2, C9, T9, N9, hc9, hown9⟩ := hfin.resolve_left (by decide)
    cases hc.symm.trans hc9
    rw [if_pos hfn] at hlay
    have hcf : m.cls = cf := by
      obtain ⟨_, _, c', _, _, _, -, -, hf', -, -, -, hown2, -⟩ := Cond.laysFinal_spec hlay
      have e1 : c' = cf := by have := hi.symm.trans hf'; simp at this; exact this.1.symm
      rw [hC, ← hown9] at hown2
      rw [← e1]; exact Option.some.inj (hown.symm.trans hown2)
    have h6 := u_fits hfc hkC hkind (Or.inr hlay) hi hdt hn hfit
    exact W.putFinK hx hb hown (hts _ hl) (by rw [← hC]; exact hi) hst hcf hin2 (by rw [q2]; exact h6) q1 q3 (by rw [hsl]; exact k2_hasslot (q4 kf hk)) rfl rfl hd fin'
end OPS
end U08ops
section U09arr
/-! THE SINGLE STEPS: fields of nest mates, arrays, making -/
def isNest : Cond → Bool
  | .methodLinkNest _ _ _ _ => true
  | .fieldLinkNest _ _ _ _ _ _ => true
  | .declares _ => true
  | .castable _ _ => true
  | _ => false
/-- a field of a nest mate by its pool number -/
def FLN (own : String) (idx ci kf : Nat) : Prop := ∃ (C : String) (T : u_T) (N : Nat) (host : String), vwCl[ci]? = some (C, T, N) ∧ (∀ w ∈ u_ws C T N, w ∈ WT) ∧ kf < N ∧ Cond.fieldLinkNest own idx C (T kf).2.1 (T kf).2.2.1 host ∈ lw_tbl ∧ (T kf).1 = C
/-- an array of the right component, indices in it -/
def inA (i : Int32) (vs : List Value) (v : Value) : Prop := ¬ i < 0 ∧ vs[i.toNatClampNeg]? = some v
def isLd (i : Instr) (kd : Nat) : Prop := (i = .iaload ∧ kd = 100) ∨ (i = .baload ∧ kd = 101) ∨ (i = .aaload ∧ 103 ≤ kd ∧ kd < 107)
theorem vp_V_get {vs : List Value} {j : Nat} {v : Value} (h : vs[j]? = some v) : vp_V vs j = v := by simp [vp_V, h]
theorem aty103 : aty 103 = .object RX5 := rfl
theorem aty104 : aty 104 = .object RX0 := rfl
theorem aty105 : aty 105 = .array .int := rfl
theorem aty106 : aty 106 = .array (.array .int) := rfl
section ARR
variable {p : Program} {la : Launch} {e : Env} {R : Room} {s : State} {m : MethodId} {args : Array Value} {below : List Frame} {meth : Method} {c : Code} {Q : State → Prop}
variable {D : va_G} {cA : Nat → ClassId} {B0 nL : Nat} {cc : ByteArray} {own : String} {pc k n : Nat} {l : List (Nat × Value)} {r : List Value} {h : AH}
theorem ald_ok (X : CX p s m args c D cA B0 nL cc own) {i : Instr} {kd a : Nat} {vs : List Value} {j : Int32} {v : Value} (hi : isLd i kd) (hd : decode cc pc = .ok (i, 1)) (ha : h a = some (kd, vs)) (hj : inA j vs v)
    (kk : WS p la e R s m args below meth c Q D cA B0 nL (pc + 1) l (v :: r) h k n) : WS p la e R s m args below meth c Q D cA B0 nL pc l (.int j :: .ref a :: r) h k n := by
  obtain ⟨hx, hb, hml, hown, hts, hK, hB⟩ := X
  intro H locs ls hH hls
  have hnl : ¬ kd < 100 := by rcases hi with ⟨-, q⟩ | ⟨-, q⟩ | ⟨-, q⟩ <;> omega
  obtain ⟨hk7, hc⟩ := (hH.1 a _ ha).2.2 hnl
  have hlt : j.toNatClampNeg < vs.length := (List.getElem?_eq_some_iff.mp hj.2).1
  have hin : ¬ (j < 0 ∨ (arrV (cA kd) vs.length (vp_V vs)).slots.size ≤ j.toNatClampNeg) := by
    rw [arrV_size]; rintro (q | q)
    · exact hj.1 q
    · omega
  have hv : (arrV (cA kd) vs.length (vp_V vs)).slots[j.toNatClampNeg]? = some v := by rw [arrV_read _ _ hlt, vp_V_get hj.2]
  have hA := hK.arr (k := kd) (by omega) hk7 vs.length (vp_V vs)
  rcases hi with ⟨rfl, rfl⟩ | ⟨rfl, rfl⟩ | ⟨rfl, h3⟩
  · exact W.iald hx hb hc hA (fun q => by cases q) hin hv rfl rfl hd (kk H locs ls hH hls)
  · exact W.zald hx hb hc hA (fun q => by cases q) hin hv rfl rfl hd (kk H locs ls hH hls)
  · refine W.aald hx hb hc hA ?_ (fun q => by cases q) hin hv rfl rfl hd (kk H locs ls hH hls)
    have h4 : kd = 103 ∨ kd = 104 ∨ kd = 105 ∨ kd = 106 := by omega
    rcases h4 with rfl | rfl | rfl | rfl <;> rfl
theorem alen_ok (X : CX p s m args c D cA B0 nL cc own) {kd a : Nat} {vs : List Value} (hkd : 100 ≤ kd) (hd : decode cc pc = .ok (.arraylength, 1)) (ha : h a = some (kd, vs))
    (kk : WS p la e R s m args below meth c Q D cA B0 nL (pc + 1) l (.int (nI vs.length) :: r) h k n) : WS p la e R s m args below meth c Q D cA B0 nL pc l (.ref a :: r) h k n := by
  obtain ⟨hx, hb, hml, hown, hts, hK, hB⟩ := X
  intro H locs ls hH hls
  obtain ⟨hk7, hc⟩ := (hH.1 a _ ha).2.2 (by show ¬ kd < 100; omega)
  exact W.alen hx hb hc (hK.arr (k := kd) (by omega) hk7 vs.length (vp_V vs)) (by rw [arrV_size]; rfl) rfl rfl hd (kk H locs ls hH hls)
theorem setV {vs : List Value} {j : Nat} (hj : j < vs.length) (x : Value) (cI : ClassId) : arrV cI vs.length (updV (vp_V vs) j x) = arrV cI (vs.set j x).length (vp_V (vs.set j x)) := by
  rw [List.length_set]
  congr 1
  funext q
  exact vp_updV_set hj x q
/-- a store: int arrays, boolean arrays (0 or 1), arrays of references (null, or a thing of the component's class) -/
def isSt (i : Instr) (kd : Nat) (v : Value) (h : AH) : Prop := (i = .iastore ∧ kd = 100 ∧ ∃ x, v = .int x) ∨ (i = .bastore ∧ kd = 101 ∧ (v = .int 0 ∨ v = .int 1)) ∨
  (i = .aastore ∧ kd = 103 ∧ ∃ q fs, v = .ref q ∧ h q = some (7, fs)) ∨ (i = .aastore ∧ kd = 104 ∧ ∃ q fs, v = .ref q ∧ h q = some (2, fs)) ∨
  (i = .aastore ∧ kd = 105 ∧ ∃ q fs, v = .ref q ∧ h q = some (100, fs)) ∨ (i = .aastore ∧ kd = 106 ∧ ∃ q fs, v = .ref q ∧ h q = some (105, fs))
set_option maxHeartbeats 2000000 in
theorem ast_ok (X : CX p s m args c D cA B0 nL cc own) {i : Instr} {kd a : Nat} {vs : List Value} {j : Int32} {v : Value} (hi : isSt i kd v h) (hd : decode cc pc = .ok (i, 1)) (ha : h a = some (kd, vs)) (hj : ¬ j < 0 ∧ j.toNatClampNeg < vs.length)
    (kk : WS p la e R s m args below meth c Q D cA B0 nL (pc + 1) l r (hup h a (kd, vs.set j.toNatClampNeg v)) k n) : WS p la e R s m args below meth c Q D cA B0 nL pc l (v :: .int j :: .ref a :: r) h k n := by
  obtain ⟨hx, hb, hml, hown, hts, hK, hB⟩ := X
  intro H locs ls hH hls
  have hnl : ¬ kd < 100 := by rcases hi with ⟨-, q, -⟩ | ⟨-, q, -⟩ | ⟨-, q, -⟩ | ⟨-, q, -⟩ | ⟨-, q, -⟩ | ⟨-, q, -⟩ <;> omega
  obtain ⟨hk7, hc⟩ := (hH.1 a _ ha).2.2 hnl
  have hlt : j.toNatClampNeg < vs.length := hj.2
  have hin : ¬ (j < 0 ∨ (arrV (cA kd) vs.length (vp_V vs)).slots.size ≤ j.toNatClampNeg) := by
    rw [arrV_size]; rintro (q | q)
    · exact hj.1 q
    · omega
  have hA := hK.arr (k := kd) (by omega) hk7 vs.length (vp_V vs)
  have fin' : ∀ (H1 : Heap), H1[a]? = some ((arrV (cA kd) vs.length (vp_V vs)).setSlot j.toNatClampNeg v) → H1.size = H.size → (∀ q, q ≠ a → H1[q]? = H[q]?) → W p la e R s m args below meth c H1 (locs ++ [⟨a, j.toNatClampNeg⟩]) k n Q (F0 m (pc + 1) ls r) := by
    intro H1 e1 e2 e3
    refine kk H1 _ ls ⟨hH.1.put ha ⟨fun z => absurd z hnl, fun _ => ⟨hk7, ?_⟩⟩ e3, hH.2.put e2 e3 (hH.1 a _ ha).1⟩ hls
    rw [e1, arrV_store, setV hlt]
  have refs : ∀ (q kv : Nat) (fs : List Value), i = .aastore → v = .ref q → h q = some (kv, fs) → (aty kd).isReference = true → (kv < 100 → ∃ C T N, vwCl[kv]? = some (C, T, N) ∧ cnm (aty kd) = C) → (¬ kv < 100 → "[" ++ (aty kv).toString = cnm (aty kd)) → W p la e R s m args below meth c H locs k n Q (F0 m pc ls (v :: .int j :: .ref a :: r)) := by
    intro q kv fs e1 e2 hq href hobj harr
    subst e1; subst e2
    obtain ⟨kA, comp, k1, k2, k3, k4⟩ := hK.2 kd (by omega) hk7
    have k4 := k4 href
    obtain ⟨kcomp, hkcomp, -⟩ := Vm.findClass_spec k4
    have hq2 := (hH.1 q _ hq).2
    by_cases hkv : kv < 100
    · obtain ⟨C, T, N, hc1, hc2⟩ := hobj hkv
      obtain ⟨r1, g0, -, cellV, g1, g2, g3, -⟩ := hq2.1 hkv
      cases hc1.symm.trans g0
      have hcls := (hK.1.1 kv _ hc1).2
      have hcomp : comp = D.1 kv := Option.some.inj (k4.symm.trans (by rw [hc2]; exact hcls.1))
      subst hcomp
      exact W.aast hx hb hc (fun q h => by cases h) (fun h => by cases h) k1 k2 href hkcomp ⟨hj.1, by rw [arrV_size]; exact hlt⟩ g1 (fun q h => by rw [g3] at h; cases h) (by rw [g2]; exact hkcomp) (by rw [g2]; exact va_assign hcls) rfl rfl hd fin'
    · obtain ⟨g0, g1⟩ := hq2.2 hkv
      obtain ⟨kA2, comp2, m1, m2, m3, -⟩ := hK.2 kv (by omega) g0
      have hcomp : comp = cA kv := Option.some.inj (k4.symm.trans (by rw [← harr hkv]; exact m3))
      subst hcomp
      exact W.aast hx hb hc (fun q h => by cases h) (fun h => by cases h) k1 k2 href hkcomp ⟨hj.1, by rw [arrV_size]; exact hlt⟩ g1 (fun q h => by cases h) hkcomp (va_asg _ _) rfl rfl hd fin'
  rcases hi with ⟨rfl, rfl, x, rfl⟩ | ⟨rfl, rfl, hv⟩ | ⟨e1, rfl, q, fs, e2, hq⟩ | ⟨e1, rfl, q, fs, e2, hq⟩ | ⟨e1, rfl, q, fs, e2, hq⟩ | ⟨e1, rfl, q, fs, e2, hq⟩
  · exact W.iast hx hb hc hA (fun q => by cases q) hin rfl rfl hd fin'
  · rcases hv with rfl | rfl
    · exact W.zast hx hb hc hA (fun q => by cases q) hin rfl rfl hd fin'
    · exact W.zast hx hb hc hA (fun q => by cases q) hin rfl rfl hd fin'
  · exact refs q 7 fs e1 e2 hq rfl (fun _ => ⟨_, _, _, rfl, rfl⟩) (fun z => absurd (by decide) z)
  · exact refs q 2 fs e1 e2 hq rfl (fun _ => ⟨_, _, _, rfl, rfl⟩) (fun z => absurd (by decide) z)
  · exact refs q 100 fs e1 e2 hq rfl (fun z => absurd z (by decide)) (fun _ => by decide +kernel)
  · exact refs q 105 fs e1 e2 hq rfl (fun z => absurd z (by decide)) (fun _ => by decide +kernel)
theorem aastN0 {T : State} {locs : List Loc} {cells slots : Nat} (X : Stand p la e R s m args below meth c T locs cells slots) (hexec : p.tables.exec = Jvm.exec) {a : Addr} {cell : Cell} {t : FieldType} {j : Int32} (hcell : T.heap[a]? = some cell) (harr : s.isArrayOf cell (.array t)) (hknown : cell.vm ≠ .unknown)
    (hin : ¬ (j < 0 ∨ cell.slots.size ≤ j.toNatClampNeg))
    {g : JFrame} (hg : g.method = m) {rest : List Value} (hstack : g.stack = .null :: .int j :: .ref a :: rest) (hdg : decode c.code g.pc = .ok (.aastore, 1)) :
    Stand p la e R s m args below meth c (T.setCell a (cell.setSlot j.toNatClampNeg .null)) (locs ++ [⟨a, j.toNatClampNeg⟩]) cells slots ∧
      ∀ target, Steps p.tables e below ((T.setCell a (cell.setSlot j.toNatClampNeg .null)).setTop { g with pc := g.pc + 1, stack := rest }) target → Steps p.tables e below (T.setTop g) target := by
  have hT := State.isArrayOf_alike X.warmed.alike harr
  have hfit : T.fitsSlot cell.cls cell.vm j.toNatClampNeg .null = true := by
    obtain ⟨hobj, k, hk, comp, hkind⟩ := hT
    cases hvm : cell.vm <;> first | exact absurd hvm (hobj _) | simp [State.fitsSlot, State.slotType?, hk, hkind, fits]
  refine ⟨X.stored hcell _ _, fun target hrest => ?_⟩
  subst hg
  jvm_step X.here [hexec, hdg]
  refine aastore.wp_of_null (c := cell) (t := .array t) X.here.top hstack hcell hT hin hknown (Nat.not_le.mp fun q => hin (Or.inr q)) hfit ?_
  intro acts
  rw [afterInstr_ok]
  exact hrest
theorem astN_ok (X : CX p s m args c D cA B0 nL cc own) {kd a : Nat} {vs : List Value} {j : Int32} (hd : decode cc pc = .ok (.aastore, 1)) (ha : h a = some (kd, vs)) (hkd : kd = 105) (hj : ¬ j < 0 ∧ j.toNatClampNeg < vs.length)
    (kk : WS p la e R s m args below meth c Q D cA B0 nL (pc + 1) l r (hup h a (kd, vs.set j.toNatClampNeg .null)) k n) : WS p la e R s m args below meth c Q D cA B0 nL pc l (.null :: .int j :: .ref a :: r) h k n := by
  obtain ⟨hx, hb, hml, hown, hts, hK, hB⟩ := X
  subst hkd
  intro H locs ls hH hls T hT X
  obtain ⟨hk7, hc⟩ := (hH.1 a _ ha).2.2 (by show ¬ 105 < 100; omega)
  have hlt : j.toNatClampNeg < vs.length := hj.2
  have hin : ¬ (j < 0 ∨ (arrV (cA 105) vs.length (vp_V vs)).slots.size ≤ j.toNatClampNeg) := by
    rw [arrV_size]; rintro (q | q)
    · exact hj.1 q
    · omega
  have hT' : T.heap[a]? = some (arrV (cA 105) vs.length (vp_V vs)) := by rw [hT]; exact hc
  obtain ⟨X', st⟩ := aastN0 X hx hT' (hK.arr (k := 105) (by omega) (by omega) vs.length (vp_V vs)) (fun q => by cases q) hin (g := F0 m pc ls (.null :: .int j :: .ref a :: r)) rfl rfl (by rw [hb]; exact hd)
  have hlt2 : a < T.heap.size := (Array.getElem?_eq_some_iff.mp hT').1
  have e3 : ∀ q : Nat, q ≠ a → (T.setCell a ((arrV (cA 105) vs.length (vp_V vs)).setSlot j.toNatClampNeg .null)).heap[q]? = H[q]? := fun q hq => by rw [heapAt_setCell_ne _ (Ne.symm hq), hT]
  have e2 : (T.setCell a ((arrV (cA 105) vs.length (vp_V vs)).setSlot j.toNatClampNeg .null)).heap.size = H.size := by rw [size_setCell, hT]
  obtain ⟨t', a1, b1⟩ := kk _ _ ls ⟨hH.1.put ha ⟨fun z => absurd z (by simp), fun _ => ⟨hk7, by rw [heapAt_setCell_self _ hlt2, arrV_store, setV hlt]⟩⟩ e3, hH.2.put e2 e3 (hH.1 a _ ha).1⟩ hls (T.setCell a ((arrV (cA 105) vs.length (vp_V vs)).setSlot j.toNatClampNeg .null)) rfl X'
  exact ⟨t', st t' a1, b1⟩
theorem getfN_ok (X : CX p s m args c D cA B0 nL cc own) (hw : ∀ w ∈ lw_tbl, isNest w = true → va_Nw w s) {idx ci kf a : Nat} {fs : List Value} {v : Value} (hF : FLN own idx ci kf) (hd : decode cc pc = .ok (.getfield idx, 3)) (ha : h a = some (ci, fs)) (hv : fs[kf]? = some v)
    (kk : WS p la e R s m args below meth c Q D cA B0 nL (pc + 3) l (v :: r) h k n) : WS p la e R s m args below meth c Q D cA B0 nL pc l (.ref a :: r) h k n := by
  obtain ⟨hx, hb, hml, hown, hts, hK, hB⟩ := X
  obtain ⟨C, T, N, host, hc, hin, hk, hl, hC⟩ := hF
  intro H locs ls hH hls
  obtain ⟨r0, h1, h2, cell, q1, q2, q3, q4⟩ := (hH.1 a _ ha).2.1 (vwCl_lt hc)
  have hr : r0 = (C, T, N) := Option.some.inj (h1.symm.trans hc)
  subst hr
  obtain ⟨hS, hfc, kC, hkC, hkind⟩ := hK.1.1 ci _ hc
  obtain ⟨cf, kf0, fi, f, hi, hsl⟩ := hS kf hk
  refine va_Wgetf hx hb hown (va_Nw.use rfl (hw _ hl rfl)) (by rw [← hC]; exact hi) (u_facts hfc hkC (u_lays hts hin hk) hi).1 q1 (by rw [q3]; exact fun h => by cases h) (v := v) ?_ rfl rfl hd (kk H locs ls hH hls)
  rw [hsl, q4 kf hk]
  simp [vp_V, hv]
/-- a new array of numbers -/
theorem newa_ok (X : CX p s m args c D cA B0 nL cc own) {at' : ArrayType} {kd : Nat} {j : Int32} (hk : (at' = .int ∧ kd = 100) ∨ (at' = .boolean ∧ kd = 101)) (hw : Cond.arrayClass (newarray.typeOf at') ∈ WT) (hd : decode cc pc = .ok (.newarray at', 2)) (hj : ¬ j < 0) (hj2 : j.toNatClampNeg ≤ 1000) (hr1 : k + 1 ≤ R.cells) (hr2 : n + j.toNatClampNeg ≤ R.slots)
    (kk : ∀ q : Nat, h q = none → B0 ≤ q → WS p la e R s m args below meth c Q D cA B0 nL (pc + 2) l (.ref q :: r) (hup h q (kd, List.replicate j.toNatClampNeg (.int 0))) (k + 1) (n + j.toNatClampNeg)) : WS p la e R s m args below meth c Q D cA B0 nL pc l (.int j :: r) h k n := by
  obtain ⟨hx, hb, hml, hown, hts, hK, hB⟩ := X
  intro H locs ls hH hls
  have hBH : B0 ≤ H.size := Nat.le_trans hB hH.2.1
  have hbytes : j.toNatClampNeg * componentBytes (newarray.typeOf at') ≤ 536870912 := by
    rcases hk with ⟨rfl, rfl⟩ | ⟨rfl, rfl⟩
    · show j.toNatClampNeg * 4 ≤ 536870912; omega
    · show j.toNatClampNeg * 1 ≤ 536870912; omega
  refine va_newaK hx hb (hts _ hw) rfl hd rfl hj rfl hbytes hr1 hr2 rfl fun H1 cA' e1 z1 o1 hAr hNm => ?_
  refine kk H.size (hH.1.fresh) hBH H1 _ ls ⟨hH.1.push hBH ⟨fun z => ?_, fun _ => ⟨?_, ?_⟩⟩ o1, Nat.le_trans hH.2.1 (by omega), fun x h1 h2 => (o1 x (Nat.lt_of_lt_of_le h1 hH.2.1)).trans (hH.2.2.1 x h1 h2), hH.2.2.2⟩ hls
  · rcases hk with ⟨-, rfl⟩ | ⟨-, rfl⟩ <;> exact absurd z (by simp)
  · rcases hk with ⟨-, rfl⟩ | ⟨-, rfl⟩ <;> simp
  · have hcA : cA' = cA kd := by
      rcases hk with ⟨rfl, rfl⟩ | ⟨rfl, rfl⟩
      · obtain ⟨_, _, -, -, k3, -⟩ := hK.2 100 (by decide) (by decide)
        exact Option.some.inj (hNm.symm.trans k3)
      · obtain ⟨_, _, -, -, k3, -⟩ := hK.2 101 (by decide) (by decide)
        exact Option.some.inj (hNm.symm.trans k3)
    rw [e1, hcA]
    have hdv : defaultValue (newarray.typeOf at') = .int 0 := by rcases hk with ⟨rfl, -⟩ | ⟨rfl, -⟩ <;> rfl
    rw [hdv]
    show some (arrV (cA kd) j.toNatClampNeg fun _ => Value.int 0) = some (arrV (cA kd) (List.replicate j.toNatClampNeg (Value.int 0)).length (vp_V (List.replicate j.toNatClampNeg (Value.int 0))))
    rw [List.length_replicate]
    congr 1
    unfold arrV
    congr 2
    funext q
    rw [vp_V_get (v := .int 0)]
    simp
theorem newq_fin (hK : KO D cA s) (hB : B0 ≤ s.heap.size) {H : Heap} {locs : List Loc} {ls : Array Slot} (hH : HS D cA B0 s h H locs) (hls : lv_has ls nL l) {kd N : Nat} (hkd : 103 ≤ kd) (hkd2 : kd < 107) {cA' : ClassId} (hNm : s.vm.findClass ("[" ++ (aty kd).toString) = some cA')
    (kk : ∀ q : Nat, h q = none → B0 ≤ q → WS p la e R s m args below meth c Q D cA B0 nL (pc + 3) l (.ref q :: r) (hup h q (kd, List.replicate N .null)) (k + 1) (n + N)) :
    W p la e R s m args below meth c (H.push { cls := cA', slots := Array.replicate N .null, vm := .none }) locs (k + 1) (n + N) Q (F0 m (pc + 3) ls (.ref H.size :: r)) := by
  have hBH : B0 ≤ H.size := Nat.le_trans hB hH.2.1
  have o1 : ∀ q : Nat, q < H.size → (H.push ({ cls := cA', slots := Array.replicate N .null, vm := .none } : Cell))[q]? = H[q]? := fun q hq => by rw [Array.getElem?_push, if_neg (Nat.ne_of_lt hq)]
  refine kk H.size (hH.1.fresh) hBH _ _ ls ⟨hH.1.push hBH ⟨fun z => absurd z (by simp; omega), fun _ => ⟨(show kd < 108 by omega), ?_⟩⟩ o1, by rw [Array.size_push]; exact Nat.le_trans hH.2.1 (by omega), fun x h1 h2 => (o1 x (Nat.lt_of_lt_of_le h1 hH.2.1)).trans (hH.2.2.1 x h1 h2), hH.2.2.2⟩ hls
  obtain ⟨_, _, -, -, k3, -⟩ := hK.2 kd (by omega) (by omega)
  have hcA : cA' = cA kd := Option.some.inj (hNm.symm.trans k3)
  rw [Array.getElem?_push_size, hcA, arrV_new]
  show some (arrV (cA kd) N fun _ => Value.null) = some (arrV (cA kd) (List.replicate N Value.null).length (vp_V (List.replicate N Value.null)))
  rw [List.length_replicate]
  congr 1
  unfold arrV
  congr 2
  funext q
  rw [vp_V_get (v := .null)]
  simp
theorem anew_ok (X : CX p s m args c D cA B0 nL cc own) {idx kd : Nat} {j : Int32} (hkd : 103 ≤ kd ∧ kd < 107) (hl : Cond.classLink own idx (cnm (aty kd)) ∈ WT) (ho : (Cond.arrayOver (aty kd)).before args s = true) (hd : decode cc pc = .ok (.anewarray idx, 3)) (hj : ¬ j < 0) (hj2 : j.toNatClampNeg ≤ 1000) (hr1 : k + 1 ≤ R.cells) (hr2 : n + j.toNatClampNeg ≤ R.slots)
    (kk : ∀ q : Nat, h q = none → B0 ≤ q → WS p la e R s m args below meth c Q D cA B0 nL (pc + 3) l (.ref q :: r) (hup h q (kd, List.replicate j.toNatClampNeg .null)) (k + 1) (n + j.toNatClampNeg)) : WS p la e R s m args below meth c Q D cA B0 nL pc l (.int j :: r) h k n := by
  obtain ⟨hx, hb, hml, hown, hts, hK, hB⟩ := X
  intro H locs ls hH hls
  have h4 : kd = 103 ∨ kd = 104 ∨ kd = 105 ∨ kd = 106 := by omega
  rcases h4 with rfl | rfl | rfl | rfl
  · rw [aty103] at hl ho
    exact W.anew (C := RX5) hx hb hown (hts _ hl) ho rfl hd rfl hj (by omega) hr1 hr2 fun cA' kA comp f1 f2 f3 f4 => newq_fin (kd := 103) hK hB hH hls (by omega) (by omega) (by rw [aty103]; exact f1) kk
  · rw [aty104] at hl ho
    exact W.anew (C := RX0) hx hb hown (hts _ hl) ho rfl hd rfl hj (by omega) hr1 hr2 fun cA' kA comp f1 f2 f3 f4 => newq_fin (kd := 104) hK hB hH hls (by omega) (by omega) (by rw [aty104]; exact f1) kk
  · rw [aty105] at hl ho
    exact W.anewA (t := .int) hx hb hown (hts _ hl) ho rfl hd rfl hj (by omega) hr1 hr2 fun cA' kA comp f1 f2 f3 f4 => newq_fin (kd := 105) hK hB hH hls (by omega) (by omega) (by rw [aty105]; exact f1) kk
  · rw [aty106] at hl ho
    exact W.anewA (t := (.array .int)) hx hb hown (hts _ hl) ho rfl hd rfl hj (by omega) hr1 hr2 fun cA' kA comp f1 f2 f3 f4 => newq_fin (kd := 106) hK hB hH hls (by omega) (by omega) (by rw [aty106]; exact f1) kk
/-- a class whose objects are made, with the values of a new one -/
def NC (own : String) (idx ci : Nat) (fs : List Value) : Prop := ∃ (C : String) (T : u_T) (N : Nat) (ty : Nat → FieldType), vwCl[ci]? = some (C, T, N) ∧ (∀ w ∈ u_ws C T N, w ∈ WT) ∧ (∀ k, k < N → parseFieldDescriptor (T k).2.2.1 = some (ty k)) ∧ fs.length = N ∧ (∀ j, j < N → defaultValue (ty j) = vp_V fs j) ∧
  Cond.classLink own idx C ∈ WT ∧ Cond.instantiable C N ∈ WT ∧ Cond.initialized C ∈ WT
theorem new_ok (X : CX p s m args c D cA B0 nL cc own) {idx ci : Nat} {fs : List Value} (hN : NC own idx ci fs) (hd : decode cc pc = .ok (.new idx, 3)) (hr1 : k + 1 ≤ R.cells) (hr2 : n + fs.length ≤ R.slots)
    (kk : ∀ q : Nat, h q = none → B0 ≤ q → WS p la e R s m args below meth c Q D cA B0 nL (pc + 3) l (.ref q :: r) (hup h q (ci, fs)) (k + 1) (n + fs.length)) : WS p la e R s m args below meth c Q D cA B0 nL pc l r h k n := by
  obtain ⟨hx, hb, hml, hown, hts, hK, hB⟩ := X
  obtain ⟨C, T, N, ty, hc, hin, hty, hlen, hdv, w1, w2, w3⟩ := hN
  subst hlen
  intro H locs ls hH hls
  have hBH : B0 ≤ H.size := Nat.le_trans hB hH.2.1
  have hKn := hK.1.1 ci _ hc
  refine W.newcK hx hb hown (hts _ w1) (hts _ w2) (hts _ w3) rfl hd hr1 hr2 hKn.2.1 rfl fun H1 kC hkC e1 z1 o1 => ?_
  exact kk H.size (hH.1.fresh) hBH H1 _ ls ⟨hH.1.push hBH ⟨fun _ => ⟨_, hc, rfl, (u_born ty hts hin hKn hkC e1 hty).to hdv⟩, fun z => absurd (vwCl_lt hc) z⟩ o1, Nat.le_trans hH.2.1 (by omega), fun x h1 h2 => (o1 x (Nat.lt_of_lt_of_le h1 hH.2.1)).trans (hH.2.2.1 x h1 h2), hH.2.2.2⟩ hls
end ARR
end U09arr
section U10call
/-! CONTRACTS over the picture, and calls -/
def partsF (j : Nat) : Value := [Value.int 0, .int 0, .int 1, .int 1, .int 2, .int 2, .int 3, .int 3].getD j .null
/-- the texts whose letters are used: number, place, text, bytes -/
def scO : Nat → String
  | 4 => RX6
  | _ => RX10
def scK : Nat → Nat
  | 0 => 176
  | 1 => 189
  | 2 => 191
  | 3 => 197
  | _ => 323
def scT : Nat → String
  | 0 => ""
  | 1 => "("
  | 2 => ","
  | 3 => ")"
  | _ => "KLMNPQST"
def scB : List (List Int32) := [[], [40], [44], [41], [75, 76, 77, 78, 80, 81, 83, 84]]
def scL : List Nat := [0, 1, 1, 1, 8]
/-- the texts of exceptions -/
def xsL : List (String × Nat × String) := [(RX6, 135, "by is not 0 to 7"), (RX6, 183, "how is not 0 or 1"), (RX6, 211, "how is not 0 to 2"), (RX6, 239, "what is not 0 to 4"), (RX6, 308, "no such slot"), (RX6, 311, "no such answe\x72"), (RX6, 313, "no such name"), (RX6, 86, "no such head"), (RX0, 29, "no such name")]
/-- what a throw and a text need of the state: cells below B0; where the texts lie stands in D (50: the texts, 51: their bytes) -/
def XS (D : va_G) (B0 : Nat) (U : State) (H : Heap) : Prop := vx_Zq Bundle.tN "UNASSIGNED_STACK" Bundle.steD (fun q : Nat => B0 ≤ q) U H ∧ vx_Zq Bundle.tN "SUPPRESSED_SENTINEL" Bundle.listD (fun q : Nat => B0 ≤ q) U H ∧
  va_Z "java/lang/String" "COMPACT_STRINGS" "Z" (.int 1) (fun q : Nat => B0 ≤ q) U H ∧ (∀ q ∈ xsL, ∃ a, vk_R q.1 q.2.1 q.2.2 a U) ∧ (∀ i, i < 5 → vk_R (scO i) (scK i) (scT i) (D.2 50 i) U) ∧ vk_S 5 scL scB (D.2 50) (D.2 51) (fun q : Nat => B0 ≤ q) U H ∧
  va_Nc "java/lang/IllegalArgumentException" "java/lang/IndexOutOfBoundsException" U ∧ va_Zq "jdk/internal/util/Preconditions" "SIOOBE_FORMATTER" "Ljava/util/function/BiFunction;" (fun q : Nat => B0 ≤ q) U H
theorem XS.to {D : va_G} {B0 : Nat} {u U : State} (h : XS D B0 u u.heap) (hW : u.WarmedH U.vm) (hk : ∀ a : Nat, a < u.heap.size → ¬ B0 ≤ a → U.heap[a]? = u.heap[a]?) : XS D B0 U U.heap := by
  obtain ⟨h1, h2, h3, h4, h5, h6, h7, h8⟩ := h
  have hal := hW.alike
  exact ⟨(h1.moved hal).kept hk, (h2.moved hal).kept hk, (h3.moved hal).kept hk, fun q hq => (h4 q hq).elim fun a ha => ⟨a, vk_R.warm hW ha⟩, fun i hi => vk_R.warm hW (h5 i hi), (h6.moved hal).kept hk, h7.moved hal, (h8.moved hal).kept hk⟩
/-- the static table PARTS, at the cell pa, below B0; the texts -/
def SF (D : va_G) (B0 pa : Nat) (U : State) (H : Heap) : Prop := va_Z RX6 "PARTS" "[I" (.ref pa) (fun q : Nat => B0 ≤ q) U H ∧ va_T .int pa 8 partsF (fun q : Nat => B0 ≤ q) U H ∧ XS D B0 U H
def OV (A : Array Value) (U : State) : Prop := ∀ kd : Nat, 103 ≤ kd → kd < 107 → (Cond.arrayOver (aty kd)).before A U = true
/-- what stands all the time, in every state -/
def EN (D : va_G) (cA : Nat → ClassId) (B0 pa : Nat) (U : State) : Prop := KO D cA U ∧ (∀ w ∈ lw_tbl, isNest w = true → va_Nw w U) ∧ OV #[] U ∧ SF D B0 pa U U.heap ∧ B0 ≤ U.heap.size
theorem OV.moved {A A' : Array Value} {u U : State} (hvm : u.vm.Alike U.vm) (h : OV A u) : OV A' U := by
  intro kd h1 h2
  have h4 : kd = 103 ∨ kd = 104 ∨ kd = 105 ∨ kd = 106 := by omega
  have hh := h kd h1 h2
  rcases h4 with rfl | rfl | rfl | rfl
  · rw [aty103] at hh ⊢
    exact va_AO.use (va_AO.moved hvm (va_AO.of hh))
  · rw [aty104] at hh ⊢
    exact va_AO.use (va_AO.moved hvm (va_AO.of hh))
  · rw [aty105] at hh ⊢
    exact over_moved hvm hh
  · rw [aty106] at hh ⊢
    exact over_moved hvm hh
theorem EN.to {D : va_G} {cA : Nat → ClassId} {B0 pa : Nat} {u U : State} (h : EN D cA B0 pa u) (hW : u.WarmedH U.vm) (hs : u.heap.size ≤ U.heap.size) (hq : ∀ q : Nat, q < B0 → U.heap[q]? = u.heap[q]?) : EN D cA B0 pa U := by
  obtain ⟨h1, h2, h3, h4, h5⟩ := h
  have hal := hW.alike
  have hk : ∀ a : Nat, a < u.heap.size → ¬ B0 ≤ a → U.heap[a]? = u.heap[a]? := fun a _ z => hq a (by omega)
  refine ⟨h1.moved hal, fun w hw hn => ?_, h3.moved hal, ⟨(h4.1.moved hal).kept hk, (h4.2.1.moved hal).kept hk, h4.2.2.to hW hk⟩, Nat.le_trans h5 hs⟩
  have h6 := h2 w hw hn
  unfold isNest at hn
  split at hn <;> first | exact va_Nw.warmM hW h6 | exact va_Nw.warmF hW h6 | exact va_Nw.warmD hW h6 | exact va_Nw.warmC hW h6 | cases hn
def PC (D : va_G) (cA : Nat → ClassId) (B0 pa : Nat) (av : List Value) (h : AH) : Array Value → State → Prop := va_Pc av (fun U => Rp D cA B0 h U.heap ∧ EN D cA B0 pa U)
def QC (D : va_G) (cA : Nat → ClassId) (B0 : Nat) (post : Option Value → AH → Prop) : Array Value → State → Outcome → State → Prop := fun _ st oc t =>
  ∃ (v : Option Value) (h' : AH), oc = .returned v ∧ post v h' ∧ Rp D cA B0 h' t.heap ∧ st.heap.size ≤ t.heap.size ∧ ∀ q : Nat, q < B0 → t.heap[q]? = st.heap[q]?
/-- A CONTRACT: from the picture h and these arguments the method comes to a picture and an answer as 'post' says, within its room -/
def CT (la : Launch) (D : va_G) (cA : Nat → ClassId) (B0 pa : Nat) (y : MethodName) (bytes : ByteArray) (maxL : Nat) (ret : Option FieldType) (rm : Room) (av : List Value) (h : AH) (post : Option Value → AH → Prop) : Prop :=
  Met la y (Cond.code y bytes maxL ret :: WT) rm (PC D cA B0 pa av h) (QC D cA B0 post) rm.cells rm.slots (fun q : Nat => B0 ≤ q)
theorem PC_blind {D : va_G} {cA : Nat → ClassId} {B0 pa : Nat} {av : List Value} {h : AH} : FrameBlind (PC D cA B0 pa av h) := by
  intro a U g mk q
  obtain ⟨q1, q2, q3⟩ := q
  exact ⟨q1, q2, q3.to (State.WarmedH.refl U) (Nat.le_refl _) (fun _ _ => rfl)⟩
theorem CT_of {la : Launch} {D : va_G} {cA : Nat → ClassId} {B0 pa : Nat} {y : MethodName} {bytes : ByteArray} {maxL : Nat} {ret : Option FieldType} {rm : Room} {av : List Value} {h : AH} {post : Option Value → AH → Prop}
    (hy : plainName y.cls = true) (hml : (lg_sl av).length ≤ maxL)
    (body : ∀ (p : Program) (e : Env) (s : State) (m : MethodId) (args : Array Value) (below : List Frame) (meth : Method) (c : Code), CX p s m args c D cA B0 maxL bytes y.cls → EN D cA B0 pa s → meth.sig.returnType = ret → meth.locks = false → meth.name = y.name →
      WS p la e rm s m args below meth c (MQ below (QC D cA B0 post) args s rm.cells rm.slots (fun q : Nat => B0 ≤ q)) D cA B0 maxL 0 (lv_args 0 av) [] h 0 0) : CT la D cA B0 pa y bytes maxL ret rm av h post := by
  refine Met.ofW (cc := bytes) (maxL := maxL) (ret := ret) hy rfl ?_
  intro p e s m args below meth c s₁ B hmlc hv
  obtain ⟨rfl, hR, hE⟩ := hv
  have hts := atoms_spec (ws := Cond.code y bytes maxL ret :: WT) B.pre
  have hown : s.vm.findClass y.cls = some m.cls := findClass_of_methodNamed B.named
  have hX : CX p s m av.toArray c D cA B0 maxL bytes y.cls := ⟨B.exec, B.bytes, hmlc, hown, fun w hw => hts w (List.mem_cons_of_mem _ hw), hE.1, hE.2.2.2.2⟩
  have hl := lv_entry av (n := maxL) hml
  rw [lg_entry_eq]
  exact body p e s m av.toArray below meth c hX hE B.returns B.notSynchronized (name_of_methodNamed B.named B.method).1 s.heap [] _ ⟨hR, va_S.rf⟩ hl
section CALL
variable {p : Program} {la : Launch} {e : Env} {R : Room} {s : State} {m : MethodId} {args : Array Value} {below : List Frame} {meth : Method} {c : Code} {Q : State → Prop}
variable {D : va_G} {cA : Nat → ClassId} {B0 pa nL : Nat} {cc : ByteArray} {own : String} {pc k n : Nat} {l : List (Nat × Value)} {r : List Value} {h : AH}
/-- behind a call -/
theorem run_ok {mc ms idx : Nat} {st : List Value} {As : Array Value} {post : Option Value → AH → Prop} (hB : B0 ≤ s.heap.size)
    (hr : ∀ (H : Heap) (locs : List Loc) (ls : Array Slot), HS D cA B0 s h H locs → lv_has ls nL l → va_Run p la e R s m args below meth c H locs k n mc ms (F0 m pc ls st) r (QC D cA B0 post As) (fun q : Nat => B0 ≤ q))
    (kk : ∀ (v : Option Value) (h' : AH), post v h' → WS p la e R s m args below meth c Q D cA B0 nL (pc + 3) l (v.toList ++ r) h' (k + mc) (n + ms)) : WS p la e R s m args below meth c Q D cA B0 nL pc l st h k n := by
  intro H locs ls hH hls T hT X
  obtain ⟨v, st₀, t, T', L, h0, X', hL, e1, e2, ⟨v', h', hv, hp, hR, hz, hq⟩, stp⟩ := hr H locs ls hH hls T hT X
  cases hv
  have hz' : H.size ≤ T'.heap.size := by rw [e1, ← h0]; exact hz
  obtain ⟨t2, a1, b1⟩ := kk v h' hp T'.heap (locs ++ L) ls ⟨by rw [e1]; exact hR, Nat.le_trans hH.2.1 hz', fun q h1 h2 => by rw [e1, hq q (by omega), h0]; exact hH.2.2.1 q h1 h2, fun q hq' => by
      rcases List.mem_append.mp hq' with g | g
      · exact hH.2.2.2 q g
      · exact hL q g⟩ hls T' rfl X'
  exact ⟨t2, stp t2 a1, b1⟩
/-- what a call needs of the tables -/
def LK (y : MethodName) (bytes : ByteArray) (maxL np : Nat) (ret : Option FieldType) : Prop := Cond.code y bytes maxL ret ∈ WT ∧ Cond.initialized y.cls ∈ WT ∧ (y.cls ≠ "java/lang/invoke/MethodHandle" ∧ y.cls ≠ "java/lang/invoke/VarHandle") ∧ (parseMethodDescriptor y.desc).map (fun d => d.parameters.length) = some np
theorem preS_of (X : CX p s m args c D cA B0 nL cc own) (E : EN D cA B0 pa s) {H : Heap} {locs : List Loc} (hH : HS D cA B0 s h H locs) (av : List Value) : PreS s H (PC D cA B0 pa av h) av :=
  ⟨PC_blind, fun U hU hW => ⟨rfl, by rw [hU]; exact hH.1, E.to hW (by rw [hU]; exact hH.2.1) (fun q hq => by rw [hU]; exact hH.2.2.1 q (Nat.lt_of_lt_of_le hq E.2.2.2.2) (by omega))⟩⟩
theorem callB_ok (X : CX p s m args c D cA B0 nL cc own) {y : MethodName} {bytes : ByteArray} {maxL np idx : Nat} {ret : Option FieldType} {rm : Room} (hL : LK y bytes maxL np ret) (hl : Cond.methodLink own idx y ∈ WT) (hR : rm.frames + 1 ≤ R.frames ∧ 8 + (maxL + 11) + rm.locals ≤ R.locals) :
    CallB R s args own idx y bytes maxL ret (Cond.code y bytes maxL ret :: WT) rm rm.cells rm.slots np :=
  callB_of np X.2.2.2.2.1 (WT_goodIn y bytes maxL ret hL.1) rfl rfl rfl (X.2.2.2.2.1 _ hL.2.1) (X.2.2.2.2.1 _ hl) ⟨hL.2.2.1.1, hL.2.2.1.2, hL.2.2.2⟩ hR
theorem fix_ok (X : CX p s m args c D cA B0 nL cc own) : CallFix p m c cc nL s args WT own := ⟨X.1, X.2.1, X.2.2.1, X.2.2.2.1, X.2.2.2.2.1⟩
theorem callS_ok (X : CX p s m args c D cA B0 nL cc own) (E : EN D cA B0 pa s) {y : MethodName} {bytes : ByteArray} {maxL idx : Nat} {ret : Option FieldType} {rm : Room} {av : List Value} {post : Option Value → AH → Prop}
    (hM : CT la D cA B0 pa y bytes maxL ret rm av h post) (hL : LK y bytes maxL av.length ret) (hl : Cond.methodLink own idx y ∈ WT) (hs : Cond.static y ∈ WT) (hR : rm.frames + 1 ≤ R.frames ∧ 8 + (maxL + 11) + rm.locals ≤ R.locals) (hf : k + rm.cells ≤ R.cells ∧ n + rm.slots ≤ R.slots)
    (hW : (r.map fun v => v.category).sum ≤ 8) (hd : decode cc pc = .ok (.invokestatic idx, 3))
    (kk : ∀ (v : Option Value) (h' : AH), post v h' → WS p la e R s m args below meth c Q D cA B0 nL (pc + 3) l (v.toList ++ r) h' (k + rm.cells) (n + rm.slots)) : WS p la e R s m args below meth c Q D cA B0 nL pc l (av.reverse ++ r) h k n :=
  run_ok (idx := idx) X.2.2.2.2.2.2 (fun H locs ls hH hls => va_runS (fix_ok X) hM ⟨callB_ok X hL hl hR, X.2.2.2.2.1 _ hs⟩ (preS_of X E hH av) rfl rfl hls.1 rfl (lv_room hW) hd hf) kk
theorem callV_ok (X : CX p s m args c D cA B0 nL cc own) (E : EN D cA B0 pa s) {y : MethodName} {bytes : ByteArray} {maxL idx ci b : Nat} {ret : Option FieldType} {rm : Room} {av fs : List Value} {T : u_T} {N : Nat} {post : Option Value → AH → Prop}
    (hM : CT la D cA B0 pa y bytes maxL ret rm (.ref b :: av) h post) (hL : LK y bytes maxL av.length ret) (hl : Cond.methodLink own idx y ∈ WT) (hi : Cond.instanceMethod y ∈ WT) (hse : Cond.selects y.cls y y ∈ WT) (hR : rm.frames + 1 ≤ R.frames ∧ 8 + (maxL + 11) + rm.locals ≤ R.locals) (hf : k + rm.cells ≤ R.cells ∧ n + rm.slots ≤ R.slots)
    (hc : vwCl[ci]? = some (y.cls, T, N)) (hb : h b = some (ci, fs))
    (hW : (r.map fun v => v.category).sum ≤ 8) (hd : decode cc pc = .ok (.invokevirtual idx, 3))
    (kk : ∀ (v : Option Value) (h' : AH), post v h' → WS p la e R s m args below meth c Q D cA B0 nL (pc + 3) l (v.toList ++ r) h' (k + rm.cells) (n + rm.slots)) : WS p la e R s m args below meth c Q D cA B0 nL pc l (av.reverse ++ .ref b :: r) h k n := by
  refine run_ok (idx := idx) (As := (Value.ref b :: av).toArray) X.2.2.2.2.2.2 (fun H locs ls hH hls => va_runV (C := y.cls) (fix_ok X) hM ⟨callB_ok X hL hl hR, X.2.2.2.2.1 _ hi, X.2.2.2.2.1 _ hse⟩ ⟨PC_blind, ?_, (preS_of X E hH (.ref b :: av)).2⟩ rfl rfl hls.1 rfl (lv_room hW) hd hf) kk
  obtain ⟨r1, g0, -, cell, g1, g2, g3, -⟩ := (hH.1 b _ hb).2.1 (vwCl_lt hc)
  exact ⟨cell, g1, by rw [g3]; rfl, by rw [g2]; exact (X.2.2.2.2.2.1.1.1 ci _ hc).2.1⟩
theorem callI_ok (X : CX p s m args c D cA B0 nL cc own) (E : EN D cA B0 pa s) {y : MethodName} {bytes : ByteArray} {maxL idx b : Nat} {rm : Room} {av : List Value} {post : Option Value → AH → Prop}
    (hM : CT la D cA B0 pa y bytes maxL none rm (.ref b :: av) h post) (hL : LK y bytes maxL av.length none) (hl : Cond.methodLink own idx y ∈ WT) (hi : Cond.instanceMethod y ∈ WT) (hn : y.name = "<init>") (hR : rm.frames + 1 ≤ R.frames ∧ 8 + (maxL + 11) + rm.locals ≤ R.locals) (hf : k + rm.cells ≤ R.cells ∧ n + rm.slots ≤ R.slots)
    (hW : (r.map fun v => v.category).sum ≤ 8) (hd : decode cc pc = .ok (.invokespecial idx, 3))
    (kk : ∀ (v : Option Value) (h' : AH), post v h' → WS p la e R s m args below meth c Q D cA B0 nL (pc + 3) l (v.toList ++ r) h' (k + rm.cells) (n + rm.slots)) : WS p la e R s m args below meth c Q D cA B0 nL pc l (av.reverse ++ .ref b :: r) h k n :=
  run_ok (idx := idx) (As := (Value.ref b :: av).toArray) X.2.2.2.2.2.2 (fun H locs ls hH hls => va_runI (fix_ok X) hM ⟨callB_ok X hL hl hR, hn, X.2.2.2.2.1 _ hi⟩ (preS_of X E hH (.ref b :: av)) rfl rfl hls.1 rfl (lv_room hW) hd hf) kk
end CALL
end U10call
section U10ashift
/-! reading in a piece of the code (printed by wip/rows/genSh.py) -/
section SgS
variable {A B : ByteArray} {d : Nat}
end SgS
/-- where a piece begins -/
def sgOff {α : Type} : List (List α) → Nat → Nat
  | _, 0 => 0
  | [], _ + 1 => 0
  | r :: rs, t + 1 => r.length + sgOff rs t
end U10ashift
section U10bdec
/-! an instruction read by what it is (printed by wip/rows/genDec.py) -/
section CkS
variable {A : ByteArray}
theorem ck_at {pre r : List UInt8} {a : UInt8} {p : Nat} (h : A.data.toList = pre ++ a :: r) (hp : pre.length = p) : (Reader.u1 : Decoder Nat) A p = .ok (a.toNat, p + 1) := by
  have e0 : ∀ (C : ByteArray) (p : Nat), (Reader.u1 : Decoder Nat) C p = if h : p < C.size then .ok ((C[p]'h).toNat, p + 1) else .error (HasTruncated.truncated p) := fun C p => by
    show (if h : p < C.size then (do set (p + 1); pure (C[p]'h).toNat : Decoder Nat) else throw (HasTruncated.truncated p)) C p = _
    by_cases z : p < C.size
    · rw [dif_pos z, dif_pos z]
      rfl
    · rw [dif_neg z, dif_neg z]
      rfl
  have e : A.data.toList[p]? = some a := by
    rw [h, ← hp, List.getElem?_append_right (Nat.le_refl _), Nat.sub_self]
    rfl
  obtain ⟨h1, h2⟩ := List.getElem?_eq_some_iff.mp e
  have h3 : ∃ h : p < A.size, A[p]'h = a := ⟨h1, h2⟩
  obtain ⟨h4, h5⟩ := h3
  rw [e0, dif_pos h4, h5]
theorem ck_at2 {pre r : List UInt8} {a b : UInt8} (h : A.data.toList = pre ++ a :: b :: r) : (Reader.u1 : Decoder Nat) A (pre.length + 1) = .ok (b.toNat, pre.length + 2) := ck_at (pre := pre ++ [a]) (r := r) (by rw [h]; simp) (by simp)
theorem ck_at3 {pre r : List UInt8} {a b c : UInt8} (h : A.data.toList = pre ++ a :: b :: c :: r) : (Reader.u1 : Decoder Nat) A (pre.length + 2) = .ok (c.toNat, pre.length + 3) := ck_at (pre := pre ++ [a, b]) (r := r) (by rw [h]; simp) (by simp)
theorem ck_bind {α β : Type} {r : Decoder α} {f : α → Decoder β} {p p1 q : Nat} {v : α} {w : β} (h1 : r A p = .ok (v, p1)) (h2 : f v A p1 = .ok (w, q)) : (r >>= f) A p = .ok (w, q) := by
  show (r A p >>= fun x => f x.1 A x.2) = _
  rw [h1]
  exact h2
theorem ck_map {α β : Type} (g : α → β) {r : Decoder α} {p q : Nat} {v : α} (h : r A p = .ok (v, q)) : (g <$> r) A p = .ok (g v, q) := by
  show (g <$> (r A)) p = _
  show ((fun x : α × Nat => (g x.1, x.2)) <$> (r A p)) = _
  rw [h]
  rfl
theorem ck_ap {α : Type} {g g' : Decoder α} (e : g = g') {p : Nat} {x : α × Nat} (h : g' A p = .ok x) : g A p = .ok x := by
  subst e
  exact h
theorem ck_u2 {p : Nat} {b c : UInt8} (h1 : (Reader.u1 : Decoder Nat) A p = .ok (b.toNat, p + 1)) (h2 : (Reader.u1 : Decoder Nat) A (p + 1) = .ok (c.toNat, p + 2)) : (Reader.u2 : Decoder Nat) A p = .ok (b.toNat * 256 + c.toNat, p + 2) := ck_ap (g' := Reader.u1 >>= fun hi => Reader.u1 >>= fun lo => pure (hi * 256 + lo)) rfl (ck_bind h1 (ck_bind h2 rfl))
theorem ck_s1 {p q v : Nat} (h : (Reader.u1 : Decoder Nat) A p = .ok (v, q)) : (Reader.s1 : Decoder Int) A p = .ok (Reader.signed 8 v, q) := ck_ap (g' := Reader.signed 8 <$> (Reader.u1 : Decoder Nat)) rfl (ck_map _ h)
theorem ck_s2 {p q v : Nat} (h : (Reader.u2 : Decoder Nat) A p = .ok (v, q)) : (Reader.s2 : Decoder Int) A p = .ok (Reader.signed 16 v, q) := ck_ap (g' := Reader.signed 16 <$> (Reader.u2 : Decoder Nat)) rfl (ck_map _ h)
theorem ck_op {pre r : List UInt8} {a : UInt8} (h : A.data.toList = pre ++ a :: r) {f : Nat → Decoder Instr} (hf : Decoder.instr pre.length = Reader.u1 >>= f) {op : Nat} (ho : a.toNat = op) {i : Instr} {n : Nat} (h2 : f op A (pre.length + 1) = .ok (i, pre.length + n)) : decode A pre.length = .ok (i, n) := by
  have e : Decoder.instr pre.length A pre.length = .ok (i, pre.length + n) := ck_ap hf (ck_bind (ck_at h rfl) (by rw [ho]; exact h2))
  show (Decoder.instr pre.length A pre.length >>= fun x => pure (x.1, x.2 - pre.length)) = _
  rw [e]
  show Except.ok (i, pre.length + n - pre.length) = _
  rw [Nat.add_sub_cancel_left]
def kb1 (bs : List UInt8) (n op : Nat) : Bool := match bs with
  | a :: _ => decide (a.toNat = op) && decide (n = 1)
  | _ => false
def kb2 (bs : List UInt8) (n op : Nat) (g : Nat → Bool) : Bool := match bs with
  | a :: b :: _ => decide (a.toNat = op) && (decide (n = 2) && g b.toNat)
  | _ => false
def kb3 (bs : List UInt8) (n op : Nat) (g : Nat → Nat → Bool) : Bool := match bs with
  | a :: b :: c :: _ => decide (a.toNat = op) && (decide (n = 3) && g b.toNat c.toNat)
  | _ => false
theorem kb1_ok {bs : List UInt8} {n op : Nat} (h : kb1 bs n op = true) : ∃ (a : UInt8) (r : List UInt8), bs = a :: r ∧ a.toNat = op ∧ n = 1 := by
  match bs, h with
  | a :: r, h =>
    have h2 : (decide (a.toNat = op) && decide (n = 1)) = true := h
    rw [Bool.and_eq_true, decide_eq_true_eq, decide_eq_true_eq] at h2
    exact ⟨a, r, rfl, h2.1, h2.2⟩
  | [], h => exact absurd h Bool.false_ne_true
theorem kb2_ok {bs : List UInt8} {n op : Nat} {g : Nat → Bool} (h : kb2 bs n op g = true) : ∃ (a b : UInt8) (r : List UInt8), bs = a :: b :: r ∧ a.toNat = op ∧ n = 2 ∧ g b.toNat = true := by
  match bs, h with
  | a :: b :: r, h =>
    have h2 : (decide (a.toNat = op) && (decide (n = 2) && g b.toNat)) = true := h
    rw [Bool.and_eq_true, Bool.and_eq_true, decide_eq_true_eq, decide_eq_true_eq] at h2
    exact ⟨a, b, r, rfl, h2.1, h2.2.1, h2.2.2⟩
  | [_], h => exact absurd h Bool.false_ne_true
  | [], h => exact absurd h Bool.false_ne_true
theorem kb3_ok {bs : List UInt8} {n op : Nat} {g : Nat → Nat → Bool} (h : kb3 bs n op g = true) : ∃ (a b c : UInt8) (r : List UInt8), bs = a :: b :: c :: r ∧ a.toNat = op ∧ n = 3 ∧ g b.toNat c.toNat = true := by
  match bs, h with
  | a :: b :: c :: r, h =>
    have h2 : (decide (a.toNat = op) && (decide (n = 3) && g b.toNat c.toNat)) = true := h
    rw [Bool.and_eq_true, Bool.and_eq_true, decide_eq_true_eq, decide_eq_true_eq] at h2
    exact ⟨a, b, c, r, rfl, h2.1, h2.2.1, h2.2.2⟩
  | [_, _], h => exact absurd h Bool.false_ne_true
  | [_], h => exact absurd h Bool.false_ne_true
  | [], h => exact absurd h Bool.false_ne_true
theorem ck_1 {pre bs suf : List UInt8} {n op : Nat} {i : Instr} (h : A.data.toList = pre ++ (bs ++ suf)) (hk : kb1 bs n op = true) {f : Nat → Decoder Instr} (hf : Decoder.instr pre.length = Reader.u1 >>= f) (ha : f op = Pure.pure i) : decode A pre.length = .ok (i, n) := by
  obtain ⟨a, r, rfl, ho, rfl⟩ := kb1_ok hk
  have h : A.data.toList = pre ++ a :: (r ++ suf) := h
  exact ck_op h hf ho (ck_ap ha rfl)
theorem ck_uu {pre bs suf : List UInt8} {n op v : Nat} {K : Nat → Instr} (h : A.data.toList = pre ++ (bs ++ suf)) (hk : kb2 bs n op (fun x => decide (x = v)) = true) {f : Nat → Decoder Instr} (hf : Decoder.instr pre.length = Reader.u1 >>= f) (ha : f op = Reader.u1 >>= fun x => Pure.pure (K x)) : decode A pre.length = .ok (K v, n) := by
  obtain ⟨a, b, r, rfl, ho, rfl, hv⟩ := kb2_ok hk
  have h : A.data.toList = pre ++ a :: b :: (r ++ suf) := h
  have e : b.toNat = v := of_decide_eq_true hv
  subst e
  exact ck_op h hf ho (ck_ap ha (ck_bind (ck_at2 h) rfl))
theorem ck_us {pre bs suf : List UInt8} {n op : Nat} {v : Int} {K : Int → Instr} (h : A.data.toList = pre ++ (bs ++ suf)) (hk : kb2 bs n op (fun x => decide (Reader.signed 8 x = v)) = true) {f : Nat → Decoder Instr} (hf : Decoder.instr pre.length = Reader.u1 >>= f) (ha : f op = Reader.s1 >>= fun x => Pure.pure (K x)) : decode A pre.length = .ok (K v, n) := by
  obtain ⟨a, b, r, rfl, ho, rfl, hv⟩ := kb2_ok hk
  have h : A.data.toList = pre ++ a :: b :: (r ++ suf) := h
  have e : Reader.signed 8 b.toNat = v := of_decide_eq_true hv
  subst e
  exact ck_op h hf ho (ck_ap ha (ck_bind (ck_s1 (ck_at2 h)) rfl))
theorem ck_na {pre bs suf : List UInt8} {n op v : Nat} {i : Instr} {g : Nat → Decoder Instr} (h : A.data.toList = pre ++ (bs ++ suf)) (hk : kb2 bs n op (fun x => decide (x = v)) = true) {f : Nat → Decoder Instr} (hf : Decoder.instr pre.length = Reader.u1 >>= f) (ha : f op = Reader.u1 >>= g) (hg : g v = Pure.pure i) : decode A pre.length = .ok (i, n) := by
  obtain ⟨a, b, r, rfl, ho, rfl, hv⟩ := kb2_ok hk
  have h : A.data.toList = pre ++ a :: b :: (r ++ suf) := h
  have e : b.toNat = v := of_decide_eq_true hv
  subst e
  exact ck_op h hf ho (ck_ap ha (ck_bind (ck_at2 h) (ck_ap hg rfl)))
theorem ck_2u {pre bs suf : List UInt8} {n op v : Nat} {K : Nat → Instr} (h : A.data.toList = pre ++ (bs ++ suf)) (hk : kb3 bs n op (fun x y => decide (x * 256 + y = v)) = true) {f : Nat → Decoder Instr} (hf : Decoder.instr pre.length = Reader.u1 >>= f) (ha : f op = Reader.u2 >>= fun x => Pure.pure (K x)) : decode A pre.length = .ok (K v, n) := by
  obtain ⟨a, b, c, r, rfl, ho, rfl, hv⟩ := kb3_ok hk
  have h : A.data.toList = pre ++ a :: b :: c :: (r ++ suf) := h
  have e : b.toNat * 256 + c.toNat = v := of_decide_eq_true hv
  subst e
  exact ck_op h hf ho (ck_ap ha (ck_bind (ck_u2 (ck_at2 h) (ck_at3 h)) rfl))
theorem ck_2s {pre bs suf : List UInt8} {n op : Nat} {v : Int} {K : Int → Instr} (h : A.data.toList = pre ++ (bs ++ suf)) (hk : kb3 bs n op (fun x y => decide (Reader.signed 16 (x * 256 + y) = v)) = true) {f : Nat → Decoder Instr} (hf : Decoder.instr pre.length = Reader.u1 >>= f) (ha : f op = Reader.s2 >>= fun x => Pure.pure (K x)) : decode A pre.length = .ok (K v, n) := by
  obtain ⟨a, b, c, r, rfl, ho, rfl, hv⟩ := kb3_ok hk
  have h : A.data.toList = pre ++ a :: b :: c :: (r ++ suf) := h
  have e : Reader.signed 16 (b.toNat * 256 + c.toNat) = v := of_decide_eq_true hv
  subst e
  exact ck_op h hf ho (ck_ap ha (ck_bind (ck_s2 (ck_u2 (ck_at2 h) (ck_at3 h))) rfl))
theorem ck_inc {pre bs suf : List UInt8} {n op v : Nat} {m : Int} {K : Nat → Int → Instr} (h : A.data.toList = pre ++ (bs ++ suf)) (hk : kb3 bs n op (fun x y => decide (x = v) && decide (Reader.signed 8 y = m)) = true) {f : Nat → Decoder Instr} (hf : Decoder.instr pre.length = Reader.u1 >>= f) (ha : f op = Reader.u1 >>= fun x => Reader.s1 >>= fun y => Pure.pure (K x y)) : decode A pre.length = .ok (K v m, n) := by
  obtain ⟨a, b, c, r, rfl, ho, rfl, hv⟩ := kb3_ok hk
  have h : A.data.toList = pre ++ a :: b :: c :: (r ++ suf) := h
  have hv2 : (decide (b.toNat = v) && decide (Reader.signed 8 c.toNat = m)) = true := hv
  rw [Bool.and_eq_true, decide_eq_true_eq, decide_eq_true_eq] at hv2
  obtain ⟨e1, e2⟩ := hv2
  subst e1 e2
  exact ck_op h hf ho (ck_ap ha (ck_bind (ck_at2 h) (ck_bind (ck_s1 (ck_at3 h)) rfl)))
/-- the bytes are the instruction's, and so many -/
def ckI (bs : List UInt8) (n : Nat) : Instr → Bool
  | .aconst_null => kb1 bs n 1
  | .iaload => kb1 bs n 46
  | .aaload => kb1 bs n 50
  | .baload => kb1 bs n 51
  | .iastore => kb1 bs n 79
  | .aastore => kb1 bs n 83
  | .bastore => kb1 bs n 84
  | .pop => kb1 bs n 87
  | .pop2 => kb1 bs n 88
  | .dup => kb1 bs n 89
  | .dup_x1 => kb1 bs n 90
  | .iadd => kb1 bs n 96
  | .ladd => kb1 bs n 97
  | .isub => kb1 bs n 100
  | .imul => kb1 bs n 104
  | .lmul => kb1 bs n 105
  | .idiv => kb1 bs n 108
  | .irem => kb1 bs n 112
  | .ineg => kb1 bs n 116
  | .ishl => kb1 bs n 120
  | .lshl => kb1 bs n 121
  | .ishr => kb1 bs n 122
  | .lshr => kb1 bs n 123
  | .iushr => kb1 bs n 124
  | .iand => kb1 bs n 126
  | .land => kb1 bs n 127
  | .ior => kb1 bs n 128
  | .lor => kb1 bs n 129
  | .ixor => kb1 bs n 130
  | .i2l => kb1 bs n 133
  | .i2b => kb1 bs n 145
  | .i2c => kb1 bs n 146
  | .lcmp => kb1 bs n 148
  | .ireturn => kb1 bs n 172
  | .lreturn => kb1 bs n 173
  | .areturn => kb1 bs n 176
  | .return_ => kb1 bs n 177
  | .arraylength => kb1 bs n 190
  | .athrow => kb1 bs n 191
  | .ldc v => kb2 bs n 18 (fun x => decide (x = v))
  | .iload v => kb2 bs n 21 (fun x => decide (x = v))
  | .lload v => kb2 bs n 22 (fun x => decide (x = v))
  | .aload v => kb2 bs n 25 (fun x => decide (x = v))
  | .istore v => kb2 bs n 54 (fun x => decide (x = v))
  | .lstore v => kb2 bs n 55 (fun x => decide (x = v))
  | .astore v => kb2 bs n 58 (fun x => decide (x = v))
  | .ldc_w v => kb3 bs n 19 (fun x y => decide (x * 256 + y = v))
  | .ldc2_w v => kb3 bs n 20 (fun x y => decide (x * 256 + y = v))
  | .getstatic v => kb3 bs n 178 (fun x y => decide (x * 256 + y = v))
  | .putstatic v => kb3 bs n 179 (fun x y => decide (x * 256 + y = v))
  | .getfield v => kb3 bs n 180 (fun x y => decide (x * 256 + y = v))
  | .putfield v => kb3 bs n 181 (fun x y => decide (x * 256 + y = v))
  | .invokevirtual v => kb3 bs n 182 (fun x y => decide (x * 256 + y = v))
  | .invokespecial v => kb3 bs n 183 (fun x y => decide (x * 256 + y = v))
  | .invokestatic v => kb3 bs n 184 (fun x y => decide (x * 256 + y = v))
  | .new v => kb3 bs n 187 (fun x y => decide (x * 256 + y = v))
  | .anewarray v => kb3 bs n 189 (fun x y => decide (x * 256 + y = v))
  | .checkcast v => kb3 bs n 192 (fun x y => decide (x * 256 + y = v))
  | .bipush v => kb2 bs n 16 (fun x => decide (Reader.signed 8 x = v))
  | .sipush v => kb3 bs n 17 (fun x y => decide (Reader.signed 16 (x * 256 + y) = v))
  | .goto v => kb3 bs n 167 (fun x y => decide (Reader.signed 16 (x * 256 + y) = v))
  | .ifnull v => kb3 bs n 198 (fun x y => decide (Reader.signed 16 (x * 256 + y) = v))
  | .ifnonnull v => kb3 bs n 199 (fun x y => decide (Reader.signed 16 (x * 256 + y) = v))
  | .iinc v m => kb3 bs n 132 (fun x y => decide (x = v) && decide (Reader.signed 8 y = m))
  | .iload_n k => (decide (k = 0) && kb1 bs n 26) || ((decide (k = 1) && kb1 bs n 27) || ((decide (k = 2) && kb1 bs n 28) || ((decide (k = 3) && kb1 bs n 29))))
  | .lload_n k => (decide (k = 0) && kb1 bs n 30) || ((decide (k = 1) && kb1 bs n 31) || ((decide (k = 2) && kb1 bs n 32) || ((decide (k = 3) && kb1 bs n 33))))
  | .aload_n k => (decide (k = 0) && kb1 bs n 42) || ((decide (k = 1) && kb1 bs n 43) || ((decide (k = 2) && kb1 bs n 44) || ((decide (k = 3) && kb1 bs n 45))))
  | .istore_n k => (decide (k = 0) && kb1 bs n 59) || ((decide (k = 1) && kb1 bs n 60) || ((decide (k = 2) && kb1 bs n 61) || ((decide (k = 3) && kb1 bs n 62))))
  | .lstore_n k => (decide (k = 0) && kb1 bs n 63) || ((decide (k = 1) && kb1 bs n 64) || ((decide (k = 2) && kb1 bs n 65) || ((decide (k = 3) && kb1 bs n 66))))
  | .astore_n k => (decide (k = 0) && kb1 bs n 75) || ((decide (k = 1) && kb1 bs n 76) || ((decide (k = 2) && kb1 bs n 77) || ((decide (k = 3) && kb1 bs n 78))))
  | .lconst k => (decide (k = 0) && kb1 bs n 9) || ((decide (k = 1) && kb1 bs n 10))
  | .iconst k => (decide (k = 0) && kb1 bs n 3) || ((decide (k = 1) && kb1 bs n 4) || ((decide (k = 2) && kb1 bs n 5) || ((decide (k = 3) && kb1 bs n 6) || ((decide (k = 4) && kb1 bs n 7) || ((decide (k = 5) && kb1 bs n 8) || ((decide (k = (-1)) && kb1 bs n 2)))))))
  | .newarray k => (decide (k = .boolean) && kb2 bs n 188 (fun x => decide (x = 4))) || ((decide (k = .char) && kb2 bs n 188 (fun x => decide (x = 5))) || ((decide (k = .byte) && kb2 bs n 188 (fun x => decide (x = 8))) || ((decide (k = .int) && kb2 bs n 188 (fun x => decide (x = 10))) || ((decide (k = .long) && kb2 bs n 188 (fun x => decide (x = 11)))))))
  | .ifCond k v => (decide (k = .eq) && kb3 bs n 153 (fun x y => decide (Reader.signed 16 (x * 256 + y) = v))) || ((decide (k = .ne) && kb3 bs n 154 (fun x y => decide (Reader.signed 16 (x * 256 + y) = v))) || ((decide (k = .lt) && kb3 bs n 155 (fun x y => decide (Reader.signed 16 (x * 256 + y) = v))) || ((decide (k = .ge) && kb3 bs n 156 (fun x y => decide (Reader.signed 16 (x * 256 + y) = v))) || ((decide (k = .gt) && kb3 bs n 157 (fun x y => decide (Reader.signed 16 (x * 256 + y) = v))) || ((decide (k = .le) && kb3 bs n 158 (fun x y => decide (Reader.signed 16 (x * 256 + y) = v))))))))
  | .if_icmp k v => (decide (k = .eq) && kb3 bs n 159 (fun x y => decide (Reader.signed 16 (x * 256 + y) = v))) || ((decide (k = .ne) && kb3 bs n 160 (fun x y => decide (Reader.signed 16 (x * 256 + y) = v))) || ((decide (k = .lt) && kb3 bs n 161 (fun x y => decide (Reader.signed 16 (x * 256 + y) = v))) || ((decide (k = .ge) && kb3 bs n 162 (fun x y => decide (Reader.signed 16 (x * 256 + y) = v))) || ((decide (k = .gt) && kb3 bs n 163 (fun x y => decide (Reader.signed 16 (x * 256 + y) = v))) || ((decide (k = .le) && kb3 bs n 164 (fun x y => decide (Reader.signed 16 (x * 256 + y) = v))))))))
  | .if_acmp k v => (decide (k = .eq) && kb3 bs n 165 (fun x y => decide (Reader.signed 16 (x * 256 + y) = v))) || ((decide (k = .ne) && kb3 bs n 166 (fun x y => decide (Reader.signed 16 (x * 256 + y) = v))))
  | _ => false
set_option maxHeartbeats 16000000 in
set_option maxRecDepth 100000 in
theorem ckI_ok {pre bs suf : List UInt8} {n : Nat} {i : Instr} (h : A.data.toList = pre ++ (bs ++ suf)) (hk : ckI bs n i = true) : decode A pre.length = .ok (i, n) := by
  cases i with
  | aconst_null => exact ck_1 (op := 1) h hk rfl rfl
  | iaload => exact ck_1 (op := 46) h hk rfl rfl
  | aaload => exact ck_1 (op := 50) h hk rfl rfl
  | baload => exact ck_1 (op := 51) h hk rfl rfl
  | iastore => exact ck_1 (op := 79) h hk rfl rfl
  | aastore => exact ck_1 (op := 83) h hk rfl rfl
  | bastore => exact ck_1 (op := 84) h hk rfl rfl
  | pop => exact ck_1 (op := 87) h hk rfl rfl
  | pop2 => exact ck_1 (op := 88) h hk rfl rfl
  | dup => exact ck_1 (op := 89) h hk rfl rfl
  | dup_x1 => exact ck_1 (op := 90) h hk rfl rfl
  | iadd => exact ck_1 (op := 96) h hk rfl rfl
  | ladd => exact ck_1 (op := 97) h hk rfl rfl
  | isub => exact ck_1 (op := 100) h hk rfl rfl
  | imul => exact ck_1 (op := 104) h hk rfl rfl
  | lmul => exact ck_1 (op := 105) h hk rfl rfl
  | idiv => exact ck_1 (op := 108) h hk rfl rfl
  | irem => exact ck_1 (op := 112) h hk rfl rfl
  | ineg => exact ck_1 (op := 116) h hk rfl rfl
  | ishl => exact ck_1 (op := 120) h hk rfl rfl
  | lshl => exact ck_1 (op := 121) h hk rfl rfl
  | ishr => exact ck_1 (op := 122) h hk rfl rfl
  | lshr => exact ck_1 (op := 123) h hk rfl rfl
  | iushr => exact ck_1 (op := 124) h hk rfl rfl
  | iand => exact ck_1 (op := 126) h hk rfl rfl
  | land => exact ck_1 (op := 127) h hk rfl rfl
  | ior => exact ck_1 (op := 128) h hk rfl rfl
  | lor => exact ck_1 (op := 129) h hk rfl rfl
  | ixor => exact ck_1 (op := 130) h hk rfl rfl
  | i2l => exact ck_1 (op := 133) h hk rfl rfl
  | i2b => exact ck_1 (op := 145) h hk rfl rfl
  | i2c => exact ck_1 (op := 146) h hk rfl rfl
  | lcmp => exact ck_1 (op := 148) h hk rfl rfl
  | ireturn => exact ck_1 (op := 172) h hk rfl rfl
  | lreturn => exact ck_1 (op := 173) h hk rfl rfl
  | areturn => exact ck_1 (op := 176) h hk rfl rfl
  | return_ => exact ck_1 (op := 177) h hk rfl rfl
  | arraylength => exact ck_1 (op := 190) h hk rfl rfl
  | athrow => exact ck_1 (op := 191) h hk rfl rfl
  | ldc v => exact ck_uu (op := 18) (K := .ldc) h hk rfl rfl
  | iload v => exact ck_uu (op := 21) (K := .iload) h hk rfl rfl
  | lload v => exact ck_uu (op := 22) (K := .lload) h hk rfl rfl
  | aload v => exact ck_uu (op := 25) (K := .aload) h hk rfl rfl
  | istore v => exact ck_uu (op := 54) (K := .istore) h hk rfl rfl
  | lstore v => exact ck_uu (op := 55) (K := .lstore) h hk rfl rfl
  | astore v => exact ck_uu (op := 58) (K := .astore) h hk rfl rfl
  | ldc_w v => exact ck_2u (op := 19) (K := .ldc_w) h hk rfl rfl
  | ldc2_w v => exact ck_2u (op := 20) (K := .ldc2_w) h hk rfl rfl
  | getstatic v => exact ck_2u (op := 178) (K := .getstatic) h hk rfl rfl
  | putstatic v => exact ck_2u (op := 179) (K := .putstatic) h hk rfl rfl
  | getfield v => exact ck_2u (op := 180) (K := .getfield) h hk rfl rfl
  | putfield v => exact ck_2u (op := 181) (K := .putfield) h hk rfl rfl
  | invokevirtual v => exact ck_2u (op := 182) (K := .invokevirtual) h hk rfl rfl
  | invokespecial v => exact ck_2u (op := 183) (K := .invokespecial) h hk rfl rfl
  | invokestatic v => exact ck_2u (op := 184) (K := .invokestatic) h hk rfl rfl
  | new v => exact ck_2u (op := 187) (K := .new) h hk rfl rfl
  | anewarray v => exact ck_2u (op := 189) (K := .anewarray) h hk rfl rfl
  | checkcast v => exact ck_2u (op := 192) (K := .checkcast) h hk rfl rfl
  | bipush v => exact ck_us (op := 16) (K := .bipush) h hk rfl rfl
  | sipush v => exact ck_2s (op := 17) (K := .sipush) h hk rfl rfl
  | goto v => exact ck_2s (op := 167) (K := .goto) h hk rfl rfl
  | ifnull v => exact ck_2s (op := 198) (K := .ifnull) h hk rfl rfl
  | ifnonnull v => exact ck_2s (op := 199) (K := .ifnonnull) h hk rfl rfl
  | iinc v m => exact ck_inc (op := 132) (K := .iinc) h hk rfl rfl
  | iload_n k =>
    have hk1 : ((decide (k = 0) && kb1 bs n 26) || ((decide (k = 1) && kb1 bs n 27) || ((decide (k = 2) && kb1 bs n 28) || ((decide (k = 3) && kb1 bs n 29))))) = true := hk
    simp only [Bool.or_eq_true, Bool.and_eq_true, decide_eq_true_eq] at hk1
    rcases hk1 with ⟨rfl, hz⟩ | ⟨rfl, hz⟩ | ⟨rfl, hz⟩ | ⟨rfl, hz⟩
    · exact ck_1 (op := 26) h hz rfl rfl
    · exact ck_1 (op := 27) h hz rfl rfl
    · exact ck_1 (op := 28) h hz rfl rfl
    · exact ck_1 (op := 29) h hz rfl rfl
  | lload_n k =>
    have hk1 : ((decide (k = 0) && kb1 bs n 30) || ((decide (k = 1) && kb1 bs n 31) || ((decide (k = 2) && kb1 bs n 32) || ((decide (k = 3) && kb1 bs n 33))))) = true := hk
    simp only [Bool.or_eq_true, Bool.and_eq_true, decide_eq_true_eq] at hk1
    rcases hk1 with ⟨rfl, hz⟩ | ⟨rfl, hz⟩ | ⟨rfl, hz⟩ | ⟨rfl, hz⟩
    · exact ck_1 (op := 30) h hz rfl rfl
    · exact ck_1 (op := 31) h hz rfl rfl
    · exact ck_1 (op := 32) h hz rfl rfl
    · exact ck_1 (op := 33) h hz rfl rfl
  | aload_n k =>
    have hk1 : ((decide (k = 0) && kb1 bs n 42) || ((decide (k = 1) && kb1 bs n 43) || ((decide (k = 2) && kb1 bs n 44) || ((decide (k = 3) && kb1 bs n 45))))) = true := hk
    simp only [Bool.or_eq_true, Bool.and_eq_true, decide_eq_true_eq] at hk1
    rcases hk1 with ⟨rfl, hz⟩ | ⟨rfl, hz⟩ | ⟨rfl, hz⟩ | ⟨rfl, hz⟩
    · exact ck_1 (op := 42) h hz rfl rfl
    · exact ck_1 (op := 43) h hz rfl rfl
    · exact ck_1 (op := 44) h hz rfl rfl
    · exact ck_1 (op := 45) h hz rfl rfl
  | istore_n k =>
    have hk1 : ((decide (k = 0) && kb1 bs n 59) || ((decide (k = 1) && kb1 bs n 60) || ((decide (k = 2) && kb1 bs n 61) || ((decide (k = 3) && kb1 bs n 62))))) = true := hk
    simp only [Bool.or_eq_true, Bool.and_eq_true, decide_eq_true_eq] at hk1
    rcases hk1 with ⟨rfl, hz⟩ | ⟨rfl, hz⟩ | ⟨rfl, hz⟩ | ⟨rfl, hz⟩
    · exact ck_1 (op := 59) h hz rfl rfl
    · exact ck_1 (op := 60) h hz rfl rfl
    · exact ck_1 (op := 61) h hz rfl rfl
    · exact ck_1 (op := 62) h hz rfl rfl
  | lstore_n k =>
    have hk1 : ((decide (k = 0) && kb1 bs n 63) || ((decide (k = 1) && kb1 bs n 64) || ((decide (k = 2) && kb1 bs n 65) || ((decide (k = 3) && kb1 bs n 66))))) = true := hk
    simp only [Bool.or_eq_true, Bool.and_eq_true, decide_eq_true_eq] at hk1
    rcases hk1 with ⟨rfl, hz⟩ | ⟨rfl, hz⟩ | ⟨rfl, hz⟩ | ⟨rfl, hz⟩
    · exact ck_1 (op := 63) h hz rfl rfl
    · exact ck_1 (op := 64) h hz rfl rfl
    · exact ck_1 (op := 65) h hz rfl rfl
    · exact ck_1 (op := 66) h hz rfl rfl
  | astore_n k =>
    have hk1 : ((decide (k = 0) && kb1 bs n 75) || ((decide (k = 1) && kb1 bs n 76) || ((decide (k = 2) && kb1 bs n 77) || ((decide (k = 3) && kb1 bs n 78))))) = true := hk
    simp only [Bool.or_eq_true, Bool.and_eq_true, decide_eq_true_eq] at hk1
    rcases hk1 with ⟨rfl, hz⟩ | ⟨rfl, hz⟩ | ⟨rfl, hz⟩ | ⟨rfl, hz⟩
    · exact ck_1 (op := 75) h hz rfl rfl
    · exact ck_1 (op := 76) h hz rfl rfl
    · exact ck_1 (op := 77) h hz rfl rfl
    · exact ck_1 (op := 78) h hz rfl rfl
  | lconst k =>
    have hk1 : ((decide (k = 0) && kb1 bs n 9) || ((decide (k = 1) && kb1 bs n 10))) = true := hk
    simp only [Bool.or_eq_true, Bool.and_eq_true, decide_eq_true_eq] at hk1
    rcases hk1 with ⟨rfl, hz⟩ | ⟨rfl, hz⟩
    · exact ck_1 (op := 9) h hz rfl rfl
    · exact ck_1 (op := 10) h hz rfl rfl
  | iconst k =>
    have hk1 : ((decide (k = 0) && kb1 bs n 3) || ((decide (k = 1) && kb1 bs n 4) || ((decide (k = 2) && kb1 bs n 5) || ((decide (k = 3) && kb1 bs n 6) || ((decide (k = 4) && kb1 bs n 7) || ((decide (k = 5) && kb1 bs n 8) || ((decide (k = (-1)) && kb1 bs n 2)))))))) = true := hk
    simp only [Bool.or_eq_true, Bool.and_eq_true, decide_eq_true_eq] at hk1
    rcases hk1 with ⟨rfl, hz⟩ | ⟨rfl, hz⟩ | ⟨rfl, hz⟩ | ⟨rfl, hz⟩ | ⟨rfl, hz⟩ | ⟨rfl, hz⟩ | ⟨rfl, hz⟩
    · exact ck_1 (op := 3) h hz rfl rfl
    · exact ck_1 (op := 4) h hz rfl rfl
    · exact ck_1 (op := 5) h hz rfl rfl
    · exact ck_1 (op := 6) h hz rfl rfl
    · exact ck_1 (op := 7) h hz rfl rfl
    · exact ck_1 (op := 8) h hz rfl rfl
    · exact ck_1 (op := 2) h hz rfl rfl
  | newarray k =>
    have hk1 : ((decide (k = .boolean) && kb2 bs n 188 (fun x => decide (x = 4))) || ((decide (k = .char) && kb2 bs n 188 (fun x => decide (x = 5))) || ((decide (k = .byte) && kb2 bs n 188 (fun x => decide (x = 8))) || ((decide (k = .int) && kb2 bs n 188 (fun x => decide (x = 10))) || ((decide (k = .long) && kb2 bs n 188 (fun x => decide (x = 11)))))))) = true := hk
    simp only [Bool.or_eq_true, Bool.and_eq_true, decide_eq_true_eq] at hk1
    rcases hk1 with ⟨rfl, hz⟩ | ⟨rfl, hz⟩ | ⟨rfl, hz⟩ | ⟨rfl, hz⟩ | ⟨rfl, hz⟩
    · exact ck_na (op := 188) (v := 4) h hz rfl rfl rfl
    · exact ck_na (op := 188) (v := 5) h hz rfl rfl rfl
    · exact ck_na (op := 188) (v := 8) h hz rfl rfl rfl
    · exact ck_na (op := 188) (v := 10) h hz rfl rfl rfl
    · exact ck_na (op := 188) (v := 11) h hz rfl rfl rfl
  | ifCond k v =>
    have hk1 : ((decide (k = .eq) && kb3 bs n 153 (fun x y => decide (Reader.signed 16 (x * 256 + y) = v))) || ((decide (k = .ne) && kb3 bs n 154 (fun x y => decide (Reader.signed 16 (x * 256 + y) = v))) || ((decide (k = .lt) && kb3 bs n 155 (fun x y => decide (Reader.signed 16 (x * 256 + y) = v))) || ((decide (k = .ge) && kb3 bs n 156 (fun x y => decide (Reader.signed 16 (x * 256 + y) = v))) || ((decide (k = .gt) && kb3 bs n 157 (fun x y => decide (Reader.signed 16 (x * 256 + y) = v))) || ((decide (k = .le) && kb3 bs n 158 (fun x y => decide (Reader.signed 16 (x * 256 + y) = v))))))))) = true := hk
    simp only [Bool.or_eq_true, Bool.and_eq_true, decide_eq_true_eq] at hk1
    rcases hk1 with ⟨rfl, hz⟩ | ⟨rfl, hz⟩ | ⟨rfl, hz⟩ | ⟨rfl, hz⟩ | ⟨rfl, hz⟩ | ⟨rfl, hz⟩
    · exact ck_2s (op := 153) (K := .ifCond .eq) h hz rfl rfl
    · exact ck_2s (op := 154) (K := .ifCond .ne) h hz rfl rfl
    · exact ck_2s (op := 155) (K := .ifCond .lt) h hz rfl rfl
    · exact ck_2s (op := 156) (K := .ifCond .ge) h hz rfl rfl
    · exact ck_2s (op := 157) (K := .ifCond .gt) h hz rfl rfl
    · exact ck_2s (op := 158) (K := .ifCond .le) h hz rfl rfl
  | if_icmp k v =>
    have hk1 : ((decide (k = .eq) && kb3 bs n 159 (fun x y => decide (Reader.signed 16 (x * 256 + y) = v))) || ((decide (k = .ne) && kb3 bs n 160 (fun x y => decide (Reader.signed 16 (x * 256 + y) = v))) || ((decide (k = .lt) && kb3 bs n 161 (fun x y => decide (Reader.signed 16 (x * 256 + y) = v))) || ((decide (k = .ge) && kb3 bs n 162 (fun x y => decide (Reader.signed 16 (x * 256 + y) = v))) || ((decide (k = .gt) && kb3 bs n 163 (fun x y => decide (Reader.signed 16 (x * 256 + y) = v))) || ((decide (k = .le) && kb3 bs n 164 (fun x y => decide (Reader.signed 16 (x * 256 + y) = v))))))))) = true := hk
    simp only [Bool.or_eq_true, Bool.and_eq_true, decide_eq_true_eq] at hk1
    rcases hk1 with ⟨rfl, hz⟩ | ⟨rfl, hz⟩ | ⟨rfl, hz⟩ | ⟨rfl, hz⟩ | ⟨rfl, hz⟩ | ⟨rfl, hz⟩
    · exact ck_2s (op := 159) (K := .if_icmp .eq) h hz rfl rfl
    · exact ck_2s (op := 160) (K := .if_icmp .ne) h hz rfl rfl
    · exact ck_2s (op := 161) (K := .if_icmp .lt) h hz rfl rfl
    · exact ck_2s (op := 162) (K := .if_icmp .ge) h hz rfl rfl
    · exact ck_2s (op := 163) (K := .if_icmp .gt) h hz rfl rfl
    · exact ck_2s (op := 164) (K := .if_icmp .le) h hz rfl rfl
  | if_acmp k v =>
    have hk1 : ((decide (k = .eq) && kb3 bs n 165 (fun x y => decide (Reader.signed 16 (x * 256 + y) = v))) || ((decide (k = .ne) && kb3 bs n 166 (fun x y => decide (Reader.signed 16 (x * 256 + y) = v))))) = true := hk
    simp only [Bool.or_eq_true, Bool.and_eq_true, decide_eq_true_eq] at hk1
    rcases hk1 with ⟨rfl, hz⟩ | ⟨rfl, hz⟩
    · exact ck_2s (op := 165) (K := .if_acmp .eq) h hz rfl rfl
    · exact ck_2s (op := 166) (K := .if_acmp .ne) h hz rfl rfl
  | _ => exact absurd hk Bool.false_ne_true
def ckN : Nat → List UInt8 → Option (List UInt8)
  | 1, _ :: r => some r
  | 2, _ :: _ :: r => some r
  | 3, _ :: _ :: _ :: r => some r
  | _, _ => none
theorem ckN_ok {n : Nat} {bs r : List UInt8} (h : ckN n bs = some r) : ∃ w : List UInt8, bs = w ++ r ∧ w.length = n := by
  unfold ckN at h
  split at h
  · cases h
    exact ⟨[_], rfl, rfl⟩
  · cases h
    exact ⟨[_, _], rfl, rfl⟩
  · cases h
    exact ⟨[_, _, _], rfl, rfl⟩
  · cases h
/-- instructions behind each other -/
def ckO (o : Option (List UInt8)) (g : List UInt8 → Bool) : Bool := match o with
  | some r => g r
  | none => false
def ckL : Nat → List UInt8 → List (Nat × Instr × Nat) → Bool
  | _, _, [] => true
  | d, bs, q :: L => ckO (ckN q.2.2 bs) (fun r => decide (q.1 = d) && (ckI bs q.2.2 q.2.1 && ckL (q.1 + q.2.2) r L))
theorem ckL_ok : ∀ {L : List (Nat × Instr × Nat)} {pre bs suf : List UInt8}, A.data.toList = pre ++ (bs ++ suf) → ckL pre.length bs L = true → ∀ q ∈ L, decode A q.1 = .ok q.2
  | [], _, _, _, _, _, q, hq => by cases hq
  | q0 :: L, pre, bs, suf, hA, hk, q, hq => by
    have hk1 : ckO (ckN q0.2.2 bs) (fun r => decide (q0.1 = pre.length) && (ckI bs q0.2.2 q0.2.1 && ckL (q0.1 + q0.2.2) r L)) = true := hk
    cases hn : ckN q0.2.2 bs with
    | none =>
      rw [hn] at hk1
      exact absurd hk1 Bool.false_ne_true
    | some r =>
      rw [hn] at hk1
      have hk2 : (decide (q0.1 = pre.length) && (ckI bs q0.2.2 q0.2.1 && ckL (q0.1 + q0.2.2) r L)) = true := hk1
      rw [Bool.and_eq_true, Bool.and_eq_true, decide_eq_true_eq] at hk2
      obtain ⟨e1, e2, e3⟩ := hk2
      rcases List.mem_cons.mp hq with z | z
      · rw [z, e1]
        exact ckI_ok hA e2
      · obtain ⟨w, w1, w2⟩ := ckN_ok hn
        exact ckL_ok (pre := pre ++ w) (bs := r) (suf := suf) (hA.trans (by rw [w1]; simp)) (by rw [List.length_append, w2, ← e1]; exact e3) q z
theorem ck_ok {L : List (Nat × Instr × Nat)} (h : ckL 0 A.data.toList L = true) : ∀ q ∈ L, decode A q.1 = .ok q.2 := ckL_ok (pre := []) (suf := []) (List.append_nil _).symm h
theorem ck_split {α : Type} : ∀ {rows : List (List α)} {t : Nat} {r : List α}, rows[t]? = some r → ∃ pre suf : List α, rows.flatten = pre ++ (r ++ suf) ∧ pre.length = sgOff rows t
  | [], t, r, h => by simp at h
  | x :: rs, 0, r, h => by
    simp only [List.getElem?_cons_zero, Option.some.injEq] at h
    subst h
    exact ⟨[], rs.flatten, rfl, rfl⟩
  | x :: rs, t + 1, r, h => by
    rw [List.getElem?_cons_succ] at h
    obtain ⟨pre, suf, e, l⟩ := ck_split h
    exact ⟨x ++ pre, suf, by rw [List.flatten_cons, e, List.append_assoc], by show _ = x.length + sgOff rs t; rw [List.length_append, l]⟩
theorem ck_list {rows : List (List UInt8)} (hA : A.data.toList = rows.flatten) {t d : Nat} {r : List UInt8} (hr : rows[t]? = some r) (hd : sgOff rows t = d) {L : List (Nat × Instr × Nat)} (hk : ckL d r L = true) : ∀ q ∈ L, decode A q.1 = .ok q.2 := by
  obtain ⟨pre, suf, e, l⟩ := ck_split hr
  exact ckL_ok (pre := pre) (suf := suf) (hA.trans e) (by rw [l, hd]; exact hk)
end CkS
end U10bdec
section U11ret
/-! RETURNS, Object's constructor, statics -/
section RET
variable {p : Program} {la : Launch} {e : Env} {R : Room} {s : State} {m : MethodId} {args : Array Value} {below : List Frame} {meth : Method} {c : Code}
variable {D : va_G} {cA : Nat → ClassId} {B0 pa nL : Nat} {cc : ByteArray} {own : String} {pc k n : Nat} {l : List (Nat × Value)} {r : List Value} {h : AH} {post : Option Value → AH → Prop} {mc ms : Nat}
theorem qc_ok {v : Option Value} (hp : post v h) {H : Heap} {locs : List Loc} (hH : HS D cA B0 s h H locs) (hB : B0 ≤ s.heap.size) (a : Array Value) : ∀ t : State, t.heap = H → s.WarmedH t.vm → QC D cA B0 post a s (.returned v) t :=
  fun t ht _ => ⟨v, h, rfl, hp, by rw [ht]; exact hH.1, by rw [ht]; exact hH.2.1, fun q hq => by rw [ht]; exact hH.2.2.1 q (Nat.lt_of_lt_of_le hq hB) (by omega)⟩
theorem reti_ok (X : CX p s m args c D cA B0 nL cc own) {ty : FieldType} {x : Int32} (hr : meth.sig.returnType = some ty) (hk : meth.locks = false) (hn : narrow ty (.int x) = .int x) (hd : decode cc pc = .ok (.ireturn, 1)) (hp : post (some (.int x)) h) (h1 : k ≤ mc) (h2 : n ≤ ms) :
    WS p la e R s m args below meth c (MQ below (QC D cA B0 post) args s mc ms (fun q : Nat => B0 ≤ q)) D cA B0 nL pc l [.int x] h k n := by
  intro H locs ls hH hls
  refine W.widen h1 h2 ?_
  exact W.zret X.1 X.2.1 hr hn (qc_ok hp hH X.2.2.2.2.2.2 args) hH.2.2.2 hd hk
theorem retl_ok (X : CX p s m args c D cA B0 nL cc own) {x : Int64} (hr : meth.sig.returnType = some .long) (hk : meth.locks = false) (hd : decode cc pc = .ok (.lreturn, 1)) (hp : post (some (.long x)) h) (h1 : k ≤ mc) (h2 : n ≤ ms) :
    WS p la e R s m args below meth c (MQ below (QC D cA B0 post) args s mc ms (fun q : Nat => B0 ≤ q)) D cA B0 nL pc l [.long x] h k n := by
  intro H locs ls hH hls
  refine W.widen h1 h2 ?_
  exact W.lret X.1 X.2.1 hr (qc_ok hp hH X.2.2.2.2.2.2 args) hH.2.2.2 hd hk
theorem retv_ok (X : CX p s m args c D cA B0 nL cc own) (hr : meth.sig.returnType = none) (hk : meth.locks = false) (hd : decode cc pc = .ok (.return_, 1)) (hp : post none h) (h1 : k ≤ mc) (h2 : n ≤ ms) :
    WS p la e R s m args below meth c (MQ below (QC D cA B0 post) args s mc ms (fun q : Nat => B0 ≤ q)) D cA B0 nL pc l [] h k n := by
  intro H locs ls hH hls
  refine W.widen h1 h2 ?_
  exact W.vret X.1 X.2.1 hr (qc_ok hp hH X.2.2.2.2.2.2 args) hH.2.2.2 hd hk
theorem reta_ok (X : CX p s m args c D cA B0 nL cc own) {ty : FieldType} {v : Value} (hr : meth.sig.returnType = some ty) (hk : meth.locks = false) (hty : (∃ n, ty = .object n) ∨ ∃ t, ty = .array t) (hv : v = .null ∨ ∃ a, v = .ref a) (hd : decode cc pc = .ok (.areturn, 1)) (hp : post (some v) h) (h1 : k ≤ mc) (h2 : n ≤ ms) :
    WS p la e R s m args below meth c (MQ below (QC D cA B0 post) args s mc ms (fun q : Nat => B0 ≤ q)) D cA B0 nL pc l [v] h k n := by
  intro H locs ls hH hls
  refine W.widen h1 h2 ?_
  exact W.aret X.1 X.2.1 hr hty hv (qc_ok hp hH X.2.2.2.2.2.2 args) hH.2.2.2 hd hk
variable {Q : State → Prop}
/-- the table PARTS -/
theorem gets_ok (X : CX p s m args c D cA B0 nL cc own) (E : EN D cA B0 pa s) {idx : Nat} (hl : Cond.fieldLink own idx RX6 "PARTS" "[I" ∈ WT) (hd : decode cc pc = .ok (.getstatic idx, 3))
    (kk : WS p la e R s m args below meth c Q D cA B0 nL (pc + 3) l (.ref pa :: r) h k n) : WS p la e R s m args below meth c Q D cA B0 nL pc l r h k n := by
  intro H locs ls hH hls
  exact va_gets X.1 X.2.1 E.2.2.2.1.1 hH.2 X.2.2.2.1 (X.2.2.2.2.1 _ hl) (fun _ h => h) hd (kk H locs ls hH hls)
theorem ptab_ok (X : CX p s m args c D cA B0 nL cc own) (E : EN D cA B0 pa s) {j : Int32} (hj : vp_in j 8) (hd : decode cc pc = .ok (.iaload, 1))
    (kk : WS p la e R s m args below meth c Q D cA B0 nL (pc + 1) l (partsF j.toNatClampNeg :: r) h k n) : WS p la e R s m args below meth c Q D cA B0 nL pc l (.int j :: .ref pa :: r) h k n := by
  intro H locs ls hH hls
  exact va_ti X.1 X.2.1 E.2.2.2.1.2.1 hH.2 hj rfl hd (kk H locs ls hH hls)
theorem plen_ok (X : CX p s m args c D cA B0 nL cc own) (E : EN D cA B0 pa s) (hd : decode cc pc = .ok (.arraylength, 1))
    (kk : WS p la e R s m args below meth c Q D cA B0 nL (pc + 1) l (.int 8 :: r) h k n) : WS p la e R s m args below meth c Q D cA B0 nL pc l (.ref pa :: r) h k n := by
  intro H locs ls hH hls
  exact va_tlen X.1 X.2.1 E.2.2.2.1.2.1 hH.2 rfl hd (kk H locs ls hH hls)
end RET
end U11ret
section U12lkd
/-- the instruction at a place of a method's list -/
def lkd (L : List (Nat × Instr × Nat)) (pc : Nat) : Option (Instr × Nat) := match L with
  | [] => none
  | q :: r => if q.1 = pc then some q.2 else lkd r pc
theorem lkd_ok {b : ByteArray} : ∀ {L : List (Nat × Instr × Nat)}, (∀ q ∈ L, decode b q.1 = .ok q.2) → ∀ {pc : Nat} {q : Instr × Nat}, lkd L pc = some q → decode b pc = .ok q
  | [], _, pc, q, h => by simp [lkd] at h
  | x :: r, hL, pc, q, h => by
    unfold lkd at h
    split at h
    · rename_i e
      cases h
      subst e
      exact hL x List.mem_cons_self
    · exact lkd_ok (fun y hy => hL y (List.mem_cons_of_mem _ hy)) h
end U12lkd
