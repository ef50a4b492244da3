/-! an instruction read by what it is (printed by wip/rows/genDec.py) -/
section CkS
variable {A : ByteArray}
theorem ck_at {pre r : List UInt8} {a : UInt8} {p : Nat} (h : A.data.toList = pre ++ a :: r) (hp : pre.length = p) : (Reader.u1 : Decoder Nat) A p = .ok (a.toNat, p + 1) := by
  have e0 : ∀ (C : ByteArray) (p : Nat), (Reader.u1 : Decoder Nat) C p = if h : p < C.size then .ok ((C[p]'h).toNat, p + 1) else .error (HasTruncated.truncated p) := fun C p => by
    show (if h : p < C.size then (do set (p + 1); pure (C[p]'h).toNat : Decoder Nat) else throw (HasTruncated.truncated p)) C p = _
    by_cases z : p < C.size
    · rw [dif_pos z, dif_pos z]
      rfl
    · rw [dif_neg z, dif_neg z]
      rfl
  have e : A.data.toList[p]? = some a := by
    rw [h, ← hp, List.getElem?_append_right (Nat.le_refl _), Nat.sub_self]
    rfl
  obtain ⟨h1, h2⟩ := List.getElem?_eq_some_iff.mp e
  have h3 : ∃ h : p < A.size, A[p]'h = a := ⟨h1, h2⟩
  obtain ⟨h4, h5⟩ := h3
  rw [e0, dif_pos h4, h5]
theorem ck_at2 {pre r : List UInt8} {a b : UInt8} (h : A.data.toList = pre ++ a :: b :: r) : (Reader.u1 : Decoder Nat) A (pre.length + 1) = .ok (b.toNat, pre.length + 2) := ck_at (pre := pre ++ [a]) (r := r) (by rw [h]; simp) (by simp)
theorem ck_at3 {pre r : List UInt8} {a b c : UInt8} (h : A.data.toList = pre ++ a :: b :: c :: r) : (Reader.u1 : Decoder Nat) A (pre.length + 2) = .ok (c.toNat, pre.length + 3) := ck_at (pre := pre ++ [a, b]) (r := r) (by rw [h]; simp) (by simp)
theorem ck_bind {α β : Type} {r : Decoder α} {f : α → Decoder β} {p p1 q : Nat} {v : α} {w : β} (h1 : r A p = .ok (v, p1)) (h2 : f v A p1 = .ok (w, q)) : (r >>= f) A p = .ok (w, q) := by
  show (r A p >>= fun x => f x.1 A x.2) = _
  rw [h1]
  exact h2
theorem ck_map {α β : Type} (g : α → β) {r : Decoder α} {p q : Nat} {v : α} (h : r A p = .ok (v, q)) : (g <$> r) A p = .ok (g v, q) := by
  show (g <$> (r A)) p = _
  show ((fun x : α × Nat => (g x.1, x.2)) <$> (r A p)) = _
  rw [h]
  rfl
theorem ck_ap {α : Type} {g g' : Decoder α} (e : g = g') {p : Nat} {x : α × Nat} (h : g' A p = .ok x) : g A p = .ok x := by
  subst e
  exact h
theorem ck_u2 {p : Nat} {b c : UInt8} (h1 : (Reader.u1 : Decoder Nat) A p = .ok (b.toNat, p + 1)) (h2 : (Reader.u1 : Decoder Nat) A (p + 1) = .ok (c.toNat, p + 2)) : (Reader.u2 : Decoder Nat) A p = .ok (b.toNat * 256 + c.toNat, p + 2) := ck_ap (g' := Reader.u1 >>= fun hi => Reader.u1 >>= fun lo => pure (hi * 256 + lo)) rfl (ck_bind h1 (ck_bind h2 rfl))
theorem ck_s1 {p q v : Nat} (h : (Reader.u1 : Decoder Nat) A p = .ok (v, q)) : (Reader.s1 : Decoder Int) A p = .ok (Reader.signed 8 v, q) := ck_ap (g' := Reader.signed 8 <$> (Reader.u1 : Decoder Nat)) rfl (ck_map _ h)
theorem ck_s2 {p q v : Nat} (h : (Reader.u2 : Decoder Nat) A p = .ok (v, q)) : (Reader.s2 : Decoder Int) A p = .ok (Reader.signed 16 v, q) := ck_ap (g' := Reader.signed 16 <$> (Reader.u2 : Decoder Nat)) rfl (ck_map _ h)
theorem ck_op {pre r : List UInt8} {a : UInt8} (h : A.data.toList = pre ++ a :: r) {f : Nat → Decoder Instr} (hf : Decoder.instr pre.length = Reader.u1 >>= f) {op : Nat} (ho : a.toNat = op) {i : Instr} {n : Nat} (h2 : f op A (pre.length + 1) = .ok (i, pre.length + n)) : decode A pre.length = .ok (i, n) := by
  have e : Decoder.instr pre.length A pre.length = .ok (i, pre.length + n) := ck_ap hf (ck_bind (ck_at h rfl) (by rw [ho]; exact h2))
  show (Decoder.instr pre.length A pre.length >>= fun x => pure (x.1, x.2 - pre.length)) = _
  rw [e]
  show Except.ok (i, pre.length + n - pre.length) = _
  rw [Nat.add_sub_cancel_left]
def kb1 (bs : List UInt8) (n op : Nat) : Bool := match bs with
  | a :: _ => decide (a.toNat = op) && decide (n = 1)
  | _ => false
def kb2 (bs : List UInt8) (n op : Nat) (g : Nat → Bool) : Bool := match bs with
  | a :: b :: _ => decide (a.toNat = op) && (decide (n = 2) && g b.toNat)
  | _ => false
def kb3 (bs : List UInt8) (n op : Nat) (g : Nat → Nat → Bool) : Bool := match bs with
  | a :: b :: c :: _ => decide (a.toNat = op) && (decide (n = 3) && g b.toNat c.toNat)
  | _ => false
theorem kb1_ok {bs : List UInt8} {n op : Nat} (h : kb1 bs n op = true) : ∃ (a : UInt8) (r : List UInt8), bs = a :: r ∧ a.toNat = op ∧ n = 1 := by
  match bs, h with
  | a :: r, h =>
    have h2 : (decide (a.toNat = op) && decide (n = 1)) = true := h
    rw [Bool.and_eq_true, decide_eq_true_eq, decide_eq_true_eq] at h2
    exact ⟨a, r, rfl, h2.1, h2.2⟩
  | [], h => exact absurd h Bool.false_ne_true
theorem kb2_ok {bs : List UInt8} {n op : Nat} {g : Nat → Bool} (h : kb2 bs n op g = true) : ∃ (a b : UInt8) (r : List UInt8), bs = a :: b :: r ∧ a.toNat = op ∧ n = 2 ∧ g b.toNat = true := by
  match bs, h with
  | a :: b :: r, h =>
    have h2 : (decide (a.toNat = op) && (decide (n = 2) && g b.toNat)) = true := h
    rw [Bool.and_eq_true, Bool.and_eq_true, decide_eq_true_eq, decide_eq_true_eq] at h2
    exact ⟨a, b, r, rfl, h2.1, h2.2.1, h2.2.2⟩
  | [_], h => exact absurd h Bool.false_ne_true
  | [], h => exact absurd h Bool.false_ne_true
theorem kb3_ok {bs : List UInt8} {n op : Nat} {g : Nat → Nat → Bool} (h : kb3 bs n op g = true) : ∃ (a b c : UInt8) (r : List UInt8), bs = a :: b :: c :: r ∧ a.toNat = op ∧ n = 3 ∧ g b.toNat c.toNat = true := by
  match bs, h with
  | a :: b :: c :: r, h =>
    have h2 : (decide (a.toNat = op) && (decide (n = 3) && g b.toNat c.toNat)) = true := h
    rw [Bool.and_eq_true, Bool.and_eq_true, decide_eq_true_eq, decide_eq_true_eq] at h2
    exact ⟨a, b, c, r, rfl, h2.1, h2.2.1, h2.2.2⟩
  | [_, _], h => exact absurd h Bool.false_ne_true
  | [_], h => exact absurd h Bool.false_ne_true
  | [], h => exact absurd h Bool.false_ne_true
theorem ck_1 {pre bs suf : List UInt8} {n op : Nat} {i : Instr} (h : A.data.toList = pre ++ (bs ++ suf)) (hk : kb1 bs n op = true) {f : Nat → Decoder Instr} (hf : Decoder.instr pre.length = Reader.u1 >>= f) (ha : f op = Pure.pure i) : decode A pre.length = .ok (i, n) := by
  obtain ⟨a, r, rfl, ho, rfl⟩ := kb1_ok hk
  have h : A.data.toList = pre ++ a :: (r ++ suf) := h
  exact ck_op h hf ho (ck_ap ha rfl)
theorem ck_uu {pre bs suf : List UInt8} {n op v : Nat} {K : Nat → Instr} (h : A.data.toList = pre ++ (bs ++ suf)) (hk : kb2 bs n op (fun x => decide (x = v)) = true) {f : Nat → Decoder Instr} (hf : Decoder.instr pre.length = Reader.u1 >>= f) (ha : f op = Reader.u1 >>= fun x => Pure.pure (K x)) : decode A pre.length = .ok (K v, n) := by
  obtain ⟨a, b, r, rfl, ho, rfl, hv⟩ := kb2_ok hk
  have h : A.data.toList = pre ++ a :: b :: (r ++ suf) := h
  have e : b.toNat = v := of_decide_eq_true hv
  subst e
  exact ck_op h hf ho (ck_ap ha (ck_bind (ck_at2 h) rfl))
theorem ck_us {pre bs suf : List UInt8} {n op : Nat} {v : Int} {K : Int → Instr} (h : A.data.toList = pre ++ (bs ++ suf)) (hk : kb2 bs n op (fun x => decide (Reader.signed 8 x = v)) = true) {f : Nat → Decoder Instr} (hf : Decoder.instr pre.length = Reader.u1 >>= f) (ha : f op = Reader.s1 >>= fun x => Pure.pure (K x)) : decode A pre.length = .ok (K v, n) := by
  obtain ⟨a, b, r, rfl, ho, rfl, hv⟩ := kb2_ok hk
  have h : A.data.toList = pre ++ a :: b :: (r ++ suf) := h
  have e : Reader.signed 8 b.toNat = v := of_decide_eq_true hv
  subst e
  exact ck_op h hf ho (ck_ap ha (ck_bind (ck_s1 (ck_at2 h)) rfl))
theorem ck_na {pre bs suf : List UInt8} {n op v : Nat} {i : Instr} {g : Nat → Decoder Instr} (h : A.data.toList = pre ++ (bs ++ suf)) (hk : kb2 bs n op (fun x => decide (x = v)) = true) {f : Nat → Decoder Instr} (hf : Decoder.instr pre.length = Reader.u1 >>= f) (ha : f op = Reader.u1 >>= g) (hg : g v = Pure.pure i) : decode A pre.length = .ok (i, n) := by
  obtain ⟨a, b, r, rfl, ho, rfl, hv⟩ := kb2_ok hk
  have h : A.data.toList = pre ++ a :: b :: (r ++ suf) := h
  have e : b.toNat = v := of_decide_eq_true hv
  subst e
  exact ck_op h hf ho (ck_ap ha (ck_bind (ck_at2 h) (ck_ap hg rfl)))
theorem ck_2u {pre bs suf : List UInt8} {n op v : Nat} {K : Nat → Instr} (h : A.data.toList = pre ++ (bs ++ suf)) (hk : kb3 bs n op (fun x y => decide (x * 256 + y = v)) = true) {f : Nat → Decoder Instr} (hf : Decoder.instr pre.length = Reader.u1 >>= f) (ha : f op = Reader.u2 >>= fun x => Pure.pure (K x)) : decode A pre.length = .ok (K v, n) := by
  obtain ⟨a, b, c, r, rfl, ho, rfl, hv⟩ := kb3_ok hk
  have h : A.data.toList = pre ++ a :: b :: c :: (r ++ suf) := h
  have e : b.toNat * 256 + c.toNat = v := of_decide_eq_true hv
  subst e
  exact ck_op h hf ho (ck_ap ha (ck_bind (ck_u2 (ck_at2 h) (ck_at3 h)) rfl))
theorem ck_2s {pre bs suf : List UInt8} {n op : Nat} {v : Int} {K : Int → Instr} (h : A.data.toList = pre ++ (bs ++ suf)) (hk : kb3 bs n op (fun x y => decide (Reader.signed 16 (x * 256 + y) = v)) = true) {f : Nat → Decoder Instr} (hf : Decoder.instr pre.length = Reader.u1 >>= f) (ha : f op = Reader.s2 >>= fun x => Pure.pure (K x)) : decode A pre.length = .ok (K v, n) := by
  obtain ⟨a, b, c, r, rfl, ho, rfl, hv⟩ := kb3_ok hk
  have h : A.data.toList = pre ++ a :: b :: c :: (r ++ suf) := h
  have e : Reader.signed 16 (b.toNat * 256 + c.toNat) = v := of_decide_eq_true hv
  subst e
  exact ck_op h hf ho (ck_ap ha (ck_bind (ck_s2 (ck_u2 (ck_at2 h) (ck_at3 h))) rfl))
theorem ck_inc {pre bs suf : List UInt8} {n op v : Nat} {m : Int} {K : Nat → Int → Instr} (h : A.data.toList = pre ++ (bs ++ suf)) (hk : kb3 bs n op (fun x y => decide (x = v) && decide (Reader.signed 8 y = m)) = true) {f : Nat → Decoder Instr} (hf : Decoder.instr pre.length = Reader.u1 >>= f) (ha : f op = Reader.u1 >>= fun x => Reader.s1 >>= fun y => Pure.pure (K x y)) : decode A pre.length = .ok (K v m, n) := by
  obtain ⟨a, b, c, r, rfl, ho, rfl, hv⟩ := kb3_ok hk
  have h : A.data.toList = pre ++ a :: b :: c :: (r ++ suf) := h
  have hv2 : (decide (b.toNat = v) && decide (Reader.signed 8 c.toNat = m)) = true := hv
  rw [Bool.and_eq_true, decide_eq_true_eq, decide_eq_true_eq] at hv2
  obtain ⟨e1, e2⟩ := hv2
  subst e1 e2
  exact ck_op h hf ho (ck_ap ha (ck_bind (ck_at2 h) (ck_bind (ck_s1 (ck_at3 h)) rfl)))
/-- the bytes are the instruction's, and so many -/
def ckI (bs : List UInt8) (n : Nat) : Instr → Bool
  | .aconst_null => kb1 bs n 1
  | .iaload => kb1 bs n 46
  | .aaload => kb1 bs n 50
  | .baload => kb1 bs n 51
  | .iastore => kb1 bs n 79
  | .aastore => kb1 bs n 83
  | .bastore => kb1 bs n 84
  | .pop => kb1 bs n 87
  | .pop2 => kb1 bs n 88
  | .dup => kb1 bs n 89
  | .dup_x1 => kb1 bs n 90
  | .iadd => kb1 bs n 96
  | .ladd => kb1 bs n 97
  | .isub => kb1 bs n 100
  | .imul => kb1 bs n 104
  | .lmul => kb1 bs n 105
  | .idiv => kb1 bs n 108
  | .irem => kb1 bs n 112
  | .ineg => kb1 bs n 116
  | .ishl => kb1 bs n 120
  | .lshl => kb1 bs n 121
  | .ishr => kb1 bs n 122
  | .lshr => kb1 bs n 123
  | .iushr => kb1 bs n 124
  | .iand => kb1 bs n 126
  | .land => kb1 bs n 127
  | .ior => kb1 bs n 128
  | .lor => kb1 bs n 129
  | .ixor => kb1 bs n 130
  | .i2l => kb1 bs n 133
  | .i2b => kb1 bs n 145
  | .i2c => kb1 bs n 146
  | .lcmp => kb1 bs n 148
  | .ireturn => kb1 bs n 172
  | .lreturn => kb1 bs n 173
  | .areturn => kb1 bs n 176
  | .return_ => kb1 bs n 177
  | .arraylength => kb1 bs n 190
  | .athrow => kb1 bs n 191
  | .ldc v => kb2 bs n 18 (fun x => decide (x = v))
  | .iload v => kb2 bs n 21 (fun x => decide (x = v))
  | .lload v => kb2 bs n 22 (fun x => decide (x = v))
  | .aload v => kb2 bs n 25 (fun x => decide (x = v))
  | .istore v => kb2 bs n 54 (fun x => decide (x = v))
  | .lstore v => kb2 bs n 55 (fun x => decide (x = v))
  | .astore v => kb2 bs n 58 (fun x => decide (x = v))
  | .ldc_w v => kb3 bs n 19 (fun x y => decide (x * 256 + y = v))
  | .ldc2_w v => kb3 bs n 20 (fun x y => decide (x * 256 + y = v))
  | .getstatic v => kb3 bs n 178 (fun x y => decide (x * 256 + y = v))
  | .putstatic v => kb3 bs n 179 (fun x y => decide (x * 256 + y = v))
  | .getfield v => kb3 bs n 180 (fun x y => decide (x * 256 + y = v))
  | .putfield v => kb3 bs n 181 (fun x y => decide (x * 256 + y = v))
  | .invokevirtual v => kb3 bs n 182 (fun x y => decide (x * 256 + y = v))
  | .invokespecial v => kb3 bs n 183 (fun x y => decide (x * 256 + y = v))
  | .invokestatic v => kb3 bs n 184 (fun x y => decide (x * 256 + y = v))
  | .new v => kb3 bs n 187 (fun x y => decide (x * 256 + y = v))
  | .anewarray v => kb3 bs n 189 (fun x y => decide (x * 256 + y = v))
  | .checkcast v => kb3 bs n 192 (fun x y => decide (x * 256 + y = v))
  | .bipush v => kb2 bs n 16 (fun x => decide (Reader.signed 8 x = v))
  | .sipush v => kb3 bs n 17 (fun x y => decide (Reader.signed 16 (x * 256 + y) = v))
  | .goto v => kb3 bs n 167 (fun x y => decide (Reader.signed 16 (x * 256 + y) = v))
  | .ifnull v => kb3 bs n 198 (fun x y => decide (Reader.signed 16 (x * 256 + y) = v))
  | .ifnonnull v => kb3 bs n 199 (fun x y => decide (Reader.signed 16 (x * 256 + y) = v))
  | .iinc v m => kb3 bs n 132 (fun x y => decide (x = v) && decide (Reader.signed 8 y = m))
  | .iload_n k => (decide (k = 0) && kb1 bs n 26) || ((decide (k = 1) && kb1 bs n 27) || ((decide (k = 2) && kb1 bs n 28) || ((decide (k = 3) && kb1 bs n 29))))
  | .lload_n k => (decide (k = 0) && kb1 bs n 30) || ((decide (k = 1) && kb1 bs n 31) || ((decide (k = 2) && kb1 bs n 32) || ((decide (k = 3) && kb1 bs n 33))))
  | .aload_n k => (decide (k = 0) && kb1 bs n 42) || ((decide (k = 1) && kb1 bs n 43) || ((decide (k = 2) && kb1 bs n 44) || ((decide (k = 3) && kb1 bs n 45))))
  | .istore_n k => (decide (k = 0) && kb1 bs n 59) || ((decide (k = 1) && kb1 bs n 60) || ((decide (k = 2) && kb1 bs n 61) || ((decide (k = 3) && kb1 bs n 62))))
  | .lstore_n k => (decide (k = 0) && kb1 bs n 63) || ((decide (k = 1) && kb1 bs n 64) || ((decide (k = 2) && kb1 bs n 65) || ((decide (k = 3) && kb1 bs n 66))))
  | .astore_n k => (decide (k = 0) && kb1 bs n 75) || ((decide (k = 1) && kb1 bs n 76) || ((decide (k = 2) && kb1 bs n 77) || ((decide (k = 3) && kb1 bs n 78))))
  | .lconst k => (decide (k = 0) && kb1 bs n 9) || ((decide (k = 1) && kb1 bs n 10))
  | .iconst k => (decide (k = 0) && kb1 bs n 3) || ((decide (k = 1) && kb1 bs n 4) || ((decide (k = 2) && kb1 bs n 5) || ((decide (k = 3) && kb1 bs n 6) || ((decide (k = 4) && kb1 bs n 7) || ((decide (k = 5) && kb1 bs n 8) || ((decide (k = (-1)) && kb1 bs n 2)))))))
  | .newarray k => (decide (k = .boolean) && kb2 bs n 188 (fun x => decide (x = 4))) || ((decide (k = .char) && kb2 bs n 188 (fun x => decide (x = 5))) || ((decide (k = .byte) && kb2 bs n 188 (fun x => decide (x = 8))) || ((decide (k = .int) && kb2 bs n 188 (fun x => decide (x = 10))) || ((decide (k = .long) && kb2 bs n 188 (fun x => decide (x = 11)))))))
  | .ifCond k v => (decide (k = .eq) && kb3 bs n 153 (fun x y => decide (Reader.signed 16 (x * 256 + y) = v))) || ((decide (k = .ne) && kb3 bs n 154 (fun x y => decide (Reader.signed 16 (x * 256 + y) = v))) || ((decide (k = .lt) && kb3 bs n 155 (fun x y => decide (Reader.signed 16 (x * 256 + y) = v))) || ((decide (k = .ge) && kb3 bs n 156 (fun x y => decide (Reader.signed 16 (x * 256 + y) = v))) || ((decide (k = .gt) && kb3 bs n 157 (fun x y => decide (Reader.signed 16 (x * 256 + y) = v))) || ((decide (k = .le) && kb3 bs n 158 (fun x y => decide (Reader.signed 16 (x * 256 + y) = v))))))))
  | .if_icmp k v => (decide (k = .eq) && kb3 bs n 159 (fun x y => decide (Reader.signed 16 (x * 256 + y) = v))) || ((decide (k = .ne) && kb3 bs n 160 (fun x y => decide (Reader.signed 16 (x * 256 + y) = v))) || ((decide (k = .lt) && kb3 bs n 161 (fun x y => decide (Reader.signed 16 (x * 256 + y) = v))) || ((decide (k = .ge) && kb3 bs n 162 (fun x y => decide (Reader.signed 16 (x * 256 + y) = v))) || ((decide (k = .gt) && kb3 bs n 163 (fun x y => decide (Reader.signed 16 (x * 256 + y) = v))) || ((decide (k = .le) && kb3 bs n 164 (fun x y => decide (Reader.signed 16 (x * 256 + y) = v))))))))
  | .if_acmp k v => (decide (k = .eq) && kb3 bs n 165 (fun x y => decide (Reader.signed 16 (x * 256 + y) = v))) || ((decide (k = .ne) && kb3 bs n 166 (fun x y => decide (Reader.signed 16 (x * 256 + y) = v))))
  | _ => false
set_option maxHeartbeats 16000000 in
set_option maxRecDepth 100000 in
theorem ckI_ok {pre bs suf : List UInt8} {n : Nat} {i : Instr} (h : A.data.toList = pre ++ (bs ++ suf)) (hk : ckI bs n i = true) : decode A pre.length = .ok (i, n) := by
  cases i with
  | aconst_null => exact ck_1 (op := 1) h hk rfl rfl
  | iaload => exact ck_1 (op := 46) h hk rfl rfl
  | aaload => exact ck_1 (op := 50) h hk rfl rfl
  | baload => exact ck_1 (op := 51) h hk rfl rfl
  | iastore => exact ck_1 (op := 79) h hk rfl rfl
  | aastore => exact ck_1 (op := 83) h hk rfl rfl
  | bastore => exact ck_1 (op := 84) h hk rfl rfl
  | pop => exact ck_1 (op := 87) h hk rfl rfl
  | pop2 => exact ck_1 (op := 88) h hk rfl rfl
  | dup => exact ck_1 (op := 89) h hk rfl rfl
  | dup_x1 => exact ck_1 (op := 90) h hk rfl rfl
  | iadd => exact ck_1 (op := 96) h hk rfl rfl
  | ladd => exact ck_1 (op := 97) h hk rfl rfl
  | isub => exact ck_1 (op := 100) h hk rfl rfl
  | imul => exact ck_1 (op := 104) h hk rfl rfl
  | lmul => exact ck_1 (op := 105) h hk rfl rfl
  | idiv => exact ck_1 (op := 108) h hk rfl rfl
  | irem => exact ck_1 (op := 112) h hk rfl rfl
  | ineg => exact ck_1 (op := 116) h hk rfl rfl
  | ishl => exact ck_1 (op := 120) h hk rfl rfl
  | lshl => exact ck_1 (op := 121) h hk rfl rfl
  | ishr => exact ck_1 (op := 122) h hk rfl rfl
  | lshr => exact ck_1 (op := 123) h hk rfl rfl
  | iushr => exact ck_1 (op := 124) h hk rfl rfl
  | iand => exact ck_1 (op := 126) h hk rfl rfl
  | land => exact ck_1 (op := 127) h hk rfl rfl
  | ior => exact ck_1 (op := 128) h hk rfl rfl
  | lor => exact ck_1 (op := 129) h hk rfl rfl
  | ixor => exact ck_1 (op := 130) h hk rfl rfl
  | i2l => exact ck_1 (op := 133) h hk rfl rfl
  | i2b => exact ck_1 (op := 145) h hk rfl rfl
  | i2c => exact ck_1 (op := 146) h hk rfl rfl
  | lcmp => exact ck_1 (op := 148) h hk rfl rfl
  | ireturn => exact ck_1 (op := 172) h hk rfl rfl
  | lreturn => exact ck_1 (op := 173) h hk rfl rfl
  | areturn => exact ck_1 (op := 176) h hk rfl rfl
  | return_ => exact ck_1 (op := 177) h hk rfl rfl
  | arraylength => exact ck_1 (op := 190) h hk rfl rfl
  | athrow => exact ck_1 (op := 191) h hk rfl rfl
  | ldc v => exact ck_uu (op := 18) (K := .ldc) h hk rfl rfl
  | iload v => exact ck_uu (op := 21) (K := .iload) h hk rfl rfl
  | lload v => exact ck_uu (op := 22) (K := .lload) h hk rfl rfl
  | aload v => exact ck_uu (op := 25) (K := .aload) h hk rfl rfl
  | istore v => exact ck_uu (op := 54) (K := .istore) h hk rfl rfl
  | lstore v => exact ck_uu (op := 55) (K := .lstore) h hk rfl rfl
  | astore v => exact ck_uu (op := 58) (K := .astore) h hk rfl rfl
  | ldc_w v => exact ck_2u (op := 19) (K := .ldc_w) h hk rfl rfl
  | ldc2_w v => exact ck_2u (op := 20) (K := .ldc2_w) h hk rfl rfl
  | getstatic v => exact ck_2u (op := 178) (K := .getstatic) h hk rfl rfl
  | putstatic v => exact ck_2u (op := 179) (K := .putstatic) h hk rfl rfl
  | getfield v => exact ck_2u (op := 180) (K := .getfield) h hk rfl rfl
  | putfield v => exact ck_2u (op := 181) (K := .putfield) h hk rfl rfl
  | invokevirtual v => exact ck_2u (op := 182) (K := .invokevirtual) h hk rfl rfl
  | invokespecial v => exact ck_2u (op := 183) (K := .invokespecial) h hk rfl rfl
  | invokestatic v => exact ck_2u (op := 184) (K := .invokestatic) h hk rfl rfl
  | new v => exact ck_2u (op := 187) (K := .new) h hk rfl rfl
  | anewarray v => exact ck_2u (op := 189) (K := .anewarray) h hk rfl rfl
  | checkcast v => exact ck_2u (op := 192) (K := .checkcast) h hk rfl rfl
  | bipush v => exact ck_us (op := 16) (K := .bipush) h hk rfl rfl
  | sipush v => exact ck_2s (op := 17) (K := .sipush) h hk rfl rfl
  | goto v => exact ck_2s (op := 167) (K := .goto) h hk rfl rfl
  | ifnull v => exact ck_2s (op := 198) (K := .ifnull) h hk rfl rfl
  | ifnonnull v => exact ck_2s (op := 199) (K := .ifnonnull) h hk rfl rfl
  | iinc v m => exact ck_inc (op := 132) (K := .iinc) h hk rfl rfl
  | iload_n k =>
    have hk1 : ((decide (k = 0) && kb1 bs n 26) || ((decide (k = 1) && kb1 bs n 27) || ((decide (k = 2) && kb1 bs n 28) || ((decide (k = 3) && kb1 bs n 29))))) = true := hk
    simp only [Bool.or_eq_true, Bool.and_eq_true, decide_eq_true_eq] at hk1
    rcases hk1 with ⟨rfl, hz⟩ | ⟨rfl, hz⟩ | ⟨rfl, hz⟩ | ⟨rfl, hz⟩
    · exact ck_1 (op := 26) h hz rfl rfl
    · exact ck_1 (op := 27) h hz rfl rfl
    · exact ck_1 (op := 28) h hz rfl rfl
    · exact ck_1 (op := 29) h hz rfl rfl
  | lload_n k =>
    have hk1 : ((decide (k = 0) && kb1 bs n 30) || ((decide (k = 1) && kb1 bs n 31) || ((decide (k = 2) && kb1 bs n 32) || ((decide (k = 3) && kb1 bs n 33))))) = true := hk
    simp only [Bool.or_eq_true, Bool.and_eq_true, decide_eq_true_eq] at hk1
    rcases hk1 with ⟨rfl, hz⟩ | ⟨rfl, hz⟩ | ⟨rfl, hz⟩ | ⟨rfl, hz⟩
    · exact ck_1 (op := 30) h hz rfl rfl
    · exact ck_1 (op := 31) h hz rfl rfl
    · exact ck_1 (op := 32) h hz rfl rfl
    · exact ck_1 (op := 33) h hz rfl rfl
  | aload_n k =>
    have hk1 : ((decide (k = 0) && kb1 bs n 42) || ((decide (k = 1) && kb1 bs n 43) || ((decide (k = 2) && kb1 bs n 44) || ((decide (k = 3) && kb1 bs n 45))))) = true := hk
    simp only [Bool.or_eq_true, Bool.and_eq_true, decide_eq_true_eq] at hk1
    rcases hk1 with ⟨rfl, hz⟩ | ⟨rfl, hz⟩ | ⟨rfl, hz⟩ | ⟨rfl, hz⟩
    · exact ck_1 (op := 42) h hz rfl rfl
    · exact ck_1 (op := 43) h hz rfl rfl
    · exact ck_1 (op := 44) h hz rfl rfl
    · exact ck_1 (op := 45) h hz rfl rfl
  | istore_n k =>
    have hk1 : ((decide (k = 0) && kb1 bs n 59) || ((decide (k = 1) && kb1 bs n 60) || ((decide (k = 2) && kb1 bs n 61) || ((decide (k = 3) && kb1 bs n 62))))) = true := hk
    simp only [Bool.or_eq_true, Bool.and_eq_true, decide_eq_true_eq] at hk1
    rcases hk1 with ⟨rfl, hz⟩ | ⟨rfl, hz⟩ | ⟨rfl, hz⟩ | ⟨rfl, hz⟩
    · exact ck_1 (op := 59) h hz rfl rfl
    · exact ck_1 (op := 60) h hz rfl rfl
    · exact ck_1 (op := 61) h hz rfl rfl
    · exact ck_1 (op := 62) h hz rfl rfl
  | lstore_n k =>
    have hk1 : ((decide (k = 0) && kb1 bs n 63) || ((decide (k = 1) && kb1 bs n 64) || ((decide (k = 2) && kb1 bs n 65) || ((decide (k = 3) && kb1 bs n 66))))) = true := hk
    simp only [Bool.or_eq_true, Bool.and_eq_true, decide_eq_true_eq] at hk1
    rcases hk1 with ⟨rfl, hz⟩ | ⟨rfl, hz⟩ | ⟨rfl, hz⟩ | ⟨rfl, hz⟩
    · exact ck_1 (op := 63) h hz rfl rfl
    · exact ck_1 (op := 64) h hz rfl rfl
    · exact ck_1 (op := 65) h hz rfl rfl
    · exact ck_1 (op := 66) h hz rfl rfl
  | astore_n k =>
    have hk1 : ((decide (k = 0) && kb1 bs n 75) || ((decide (k = 1) && kb1 bs n 76) || ((decide (k = 2) && kb1 bs n 77) || ((decide (k = 3) && kb1 bs n 78))))) = true := hk
    simp only [Bool.or_eq_true, Bool.and_eq_true, decide_eq_true_eq] at hk1
    rcases hk1 with ⟨rfl, hz⟩ | ⟨rfl, hz⟩ | ⟨rfl, hz⟩ | ⟨rfl, hz⟩
    · exact ck_1 (op := 75) h hz rfl rfl
    · exact ck_1 (op := 76) h hz rfl rfl
    · exact ck_1 (op := 77) h hz rfl rfl
    · exact ck_1 (op := 78) h hz rfl rfl
  | lconst k =>
    have hk1 : ((decide (k = 0) && kb1 bs n 9) || ((decide (k = 1) && kb1 bs n 10))) = true := hk
    simp only [Bool.or_eq_true, Bool.and_eq_true, decide_eq_true_eq] at hk1
    rcases hk1 with ⟨rfl, hz⟩ | ⟨rfl, hz⟩
    · exact ck_1 (op := 9) h hz rfl rfl
    · exact ck_1 (op := 10) h hz rfl rfl
  | iconst k =>
    have hk1 : ((decide (k = 0) && kb1 bs n 3) || ((decide (k = 1) && kb1 bs n 4) || ((decide (k = 2) && kb1 bs n 5) || ((decide (k = 3) && kb1 bs n 6) || ((decide (k = 4) && kb1 bs n 7) || ((decide (k = 5) && kb1 bs n 8) || ((decide (k = (-1)) && kb1 bs n 2)))))))) = true := hk
    simp only [Bool.or_eq_true, Bool.and_eq_true, decide_eq_true_eq] at hk1
    rcases hk1 with ⟨rfl, hz⟩ | ⟨rfl, hz⟩ | ⟨rfl, hz⟩ | ⟨rfl, hz⟩ | ⟨rfl, hz⟩ | ⟨rfl, hz⟩ | ⟨rfl, hz⟩
    · exact ck_1 (op := 3) h hz rfl rfl
    · exact ck_1 (op := 4) h hz rfl rfl
    · exact ck_1 (op := 5) h hz rfl rfl
    · exact ck_1 (op := 6) h hz rfl rfl
    · exact ck_1 (op := 7) h hz rfl rfl
    · exact ck_1 (op := 8) h hz rfl rfl
    · exact ck_1 (op := 2) h hz rfl rfl
  | newarray k =>
    have hk1 : ((decide (k = .boolean) && kb2 bs n 188 (fun x => decide (x = 4))) || ((decide (k = .char) && kb2 bs n 188 (fun x => decide (x = 5))) || ((decide (k = .byte) && kb2 bs n 188 (fun x => decide (x = 8))) || ((decide (k = .int) && kb2 bs n 188 (fun x => decide (x = 10))) || ((decide (k = .long) && kb2 bs n 188 (fun x => decide (x = 11)))))))) = true := hk
    simp only [Bool.or_eq_true, Bool.and_eq_true, decide_eq_true_eq] at hk1
    rcases hk1 with ⟨rfl, hz⟩ | ⟨rfl, hz⟩ | ⟨rfl, hz⟩ | ⟨rfl, hz⟩ | ⟨rfl, hz⟩
    · exact ck_na (op := 188) (v := 4) h hz rfl rfl rfl
    · exact ck_na (op := 188) (v := 5) h hz rfl rfl rfl
    · exact ck_na (op := 188) (v := 8) h hz rfl rfl rfl
    · exact ck_na (op := 188) (v := 10) h hz rfl rfl rfl
    · exact ck_na (op := 188) (v := 11) h hz rfl rfl rfl
  | ifCond k v =>
    have hk1 : ((decide (k = .eq) && kb3 bs n 153 (fun x y => decide (Reader.signed 16 (x * 256 + y) = v))) || ((decide (k = .ne) && kb3 bs n 154 (fun x y => decide (Reader.signed 16 (x * 256 + y) = v))) || ((decide (k = .lt) && kb3 bs n 155 (fun x y => decide (Reader.signed 16 (x * 256 + y) = v))) || ((decide (k = .ge) && kb3 bs n 156 (fun x y => decide (Reader.signed 16 (x * 256 + y) = v))) || ((decide (k = .gt) && kb3 bs n 157 (fun x y => decide (Reader.signed 16 (x * 256 + y) = v))) || ((decide (k = .le) && kb3 bs n 158 (fun x y => decide (Reader.signed 16 (x * 256 + y) = v))))))))) = true := hk
    simp only [Bool.or_eq_true, Bool.and_eq_true, decide_eq_true_eq] at hk1
    rcases hk1 with ⟨rfl, hz⟩ | ⟨rfl, hz⟩ | ⟨rfl, hz⟩ | ⟨rfl, hz⟩ | ⟨rfl, hz⟩ | ⟨rfl, hz⟩
    · exact ck_2s (op := 153) (K := .ifCond .eq) h hz rfl rfl
    · exact ck_2s (op := 154) (K := .ifCond .ne) h hz rfl rfl
    · exact ck_2s (op := 155) (K := .ifCond .lt) h hz rfl rfl
    · exact ck_2s (op := 156) (K := .ifCond .ge) h hz rfl rfl
    · exact ck_2s (op := 157) (K := .ifCond .gt) h hz rfl rfl
    · exact ck_2s (op := 158) (K := .ifCond .le) h hz rfl rfl
  | if_icmp k v =>
    have hk1 : ((decide (k = .eq) && kb3 bs n 159 (fun x y => decide (Reader.signed 16 (x * 256 + y) = v))) || ((decide (k = .ne) && kb3 bs n 160 (fun x y => decide (Reader.signed 16 (x * 256 + y) = v))) || ((decide (k = .lt) && kb3 bs n 161 (fun x y => decide (Reader.signed 16 (x * 256 + y) = v))) || ((decide (k = .ge) && kb3 bs n 162 (fun x y => decide (Reader.signed 16 (x * 256 + y) = v))) || ((decide (k = .gt) && kb3 bs n 163 (fun x y => decide (Reader.signed 16 (x * 256 + y) = v))) || ((decide (k = .le) && kb3 bs n 164 (fun x y => decide (Reader.signed 16 (x * 256 + y) = v))))))))) = true := hk
    simp only [Bool.or_eq_true, Bool.and_eq_true, decide_eq_true_eq] at hk1
    rcases hk1 with ⟨rfl, hz⟩ | ⟨rfl, hz⟩ | ⟨rfl, hz⟩ | ⟨rfl, hz⟩ | ⟨rfl, hz⟩ | ⟨rfl, hz⟩
    · exact ck_2s (op := 159) (K := .if_icmp .eq) h hz rfl rfl
    · exact ck_2s (op := 160) (K := .if_icmp .ne) h hz rfl rfl
    · exact ck_2s (op := 161) (K := .if_icmp .lt) h hz rfl rfl
    · exact ck_2s (op := 162) (K := .if_icmp .ge) h hz rfl rfl
    · exact ck_2s (op := 163) (K := .if_icmp .gt) h hz rfl rfl
    · exact ck_2s (op := 164) (K := .if_icmp .le) h hz rfl rfl
  | if_acmp k v =>
    have hk1 : ((decide (k = .eq) && kb3 bs n 165 (fun x y => decide (Reader.signed 16 (x * 256 + y) = v))) || ((decide (k = .ne) && kb3 bs n 166 (fun x y => decide (Reader.signed 16 (x * 256 + y) = v))))) = true := hk
    simp only [Bool.or_eq_true, Bool.and_eq_true, decide_eq_true_eq] at hk1
    rcases hk1 with ⟨rfl, hz⟩ | ⟨rfl, hz⟩
    · exact ck_2s (op := 165) (K := .if_acmp .eq) h hz rfl rfl
    · exact ck_2s (op := 166) (K := .if_acmp .ne) h hz rfl rfl
  | _ => exact absurd hk Bool.false_ne_true
def ckN : Nat → List UInt8 → Option (List UInt8)
  | 1, _ :: r => some r
  | 2, _ :: _ :: r => some r
  | 3, _ :: _ :: _ :: r => some r
  | _, _ => none
theorem ckN_ok {n : Nat} {bs r : List UInt8} (h : ckN n bs = some r) : ∃ w : List UInt8, bs = w ++ r ∧ w.length = n := by
  unfold ckN at h
  split at h
  · cases h
    exact ⟨[_], rfl, rfl⟩
  · cases h
    exact ⟨[_, _], rfl, rfl⟩
  · cases h
    exact ⟨[_, _, _], rfl, rfl⟩
  · cases h
/-- instructions behind each other -/
def ckO (o : Option (List UInt8)) (g : List UInt8 → Bool) : Bool := match o with
  | some r => g r
  | none => false
def ckL : Nat → List UInt8 → List (Nat × Instr × Nat) → Bool
  | _, _, [] => true
  | d, bs, q :: L => ckO (ckN q.2.2 bs) (fun r => decide (q.1 = d) && (ckI bs q.2.2 q.2.1 && ckL (q.1 + q.2.2) r L))
theorem ckL_ok : ∀ {L : List (Nat × Instr × Nat)} {pre bs suf : List UInt8}, A.data.toList = pre ++ (bs ++ suf) → ckL pre.length bs L = true → ∀ q ∈ L, decode A q.1 = .ok q.2
  | [], _, _, _, _, _, q, hq => by cases hq
  | q0 :: L, pre, bs, suf, hA, hk, q, hq => by
    have hk1 : ckO (ckN q0.2.2 bs) (fun r => decide (q0.1 = pre.length) && (ckI bs q0.2.2 q0.2.1 && ckL (q0.1 + q0.2.2) r L)) = true := hk
    cases hn : ckN q0.2.2 bs with
    | none =>
      rw [hn] at hk1
      exact absurd hk1 Bool.false_ne_true
    | some r =>
      rw [hn] at hk1
      have hk2 : (decide (q0.1 = pre.length) && (ckI bs q0.2.2 q0.2.1 && ckL (q0.1 + q0.2.2) r L)) = true := hk1
      rw [Bool.and_eq_true, Bool.and_eq_true, decide_eq_true_eq] at hk2
      obtain ⟨e1, e2, e3⟩ := hk2
      rcases List.mem_cons.mp hq with z | z
      · rw [z, e1]
        exact ckI_ok hA e2
      · obtain ⟨w, w1, w2⟩ := ckN_ok hn
        exact ckL_ok (pre := pre ++ w) (bs := r) (suf := suf) (hA.trans (by rw [w1]; simp)) (by rw [List.length_append, w2, ← e1]; exact e3) q z
theorem ck_ok {L : List (Nat × Instr × Nat)} (h : ckL 0 A.data.toList L = true) : ∀ q ∈ L, decode A q.1 = .ok q.2 := ckL_ok (pre := []) (suf := []) (List.append_nil _).symm h
theorem ck_split {α : Type} : ∀ {rows : List (List α)} {t : Nat} {r : List α}, rows[t]? = some r → ∃ pre suf : List α, rows.flatten = pre ++ (r ++ suf) ∧ pre.length = sgOff rows t
  | [], t, r, h => by simp at h
  | x :: rs, 0, r, h => by
    simp only [List.getElem?_cons_zero, Option.some.injEq] at h
    subst h
    exact ⟨[], rs.flatten, rfl, rfl⟩
  | x :: rs, t + 1, r, h => by
    rw [List.getElem?_cons_succ] at h
    obtain ⟨pre, suf, e, l⟩ := ck_split h
    exact ⟨x ++ pre, suf, by rw [List.flatten_cons, e, List.append_assoc], by show _ = x.length + sgOff rs t; rw [List.length_append, l]⟩
theorem ck_list {rows : List (List UInt8)} (hA : A.data.toList = rows.flatten) {t d : Nat} {r : List UInt8} (hr : rows[t]? = some r) (hd : sgOff rows t = d) {L : List (Nat × Instr × Nat)} (hk : ckL d r L = true) : ∀ q ∈ L, decode A q.1 = .ok q.2 := by
  obtain ⟨pre, suf, e, l⟩ := ck_split hr
  exact ckL_ok (pre := pre) (suf := suf) (hA.trans e) (by rw [l, hd]; exact hk)
end CkS
