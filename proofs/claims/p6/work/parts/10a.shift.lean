/-! reading in a piece of the code (printed by wip/rows/genSh.py) -/
section SgS
variable {A B : ByteArray} {d : Nat}
/-- what the one reader reads of the piece, the other one reads of the whole -/
def SgP {α : Type} (A B : ByteArray) (d p : Nat) (r r' : Decoder α) : Prop := ∀ (v : α) (q : Nat), r B p = .ok (v, q) → r' A (d + p) = .ok (v, d + q)
def SgB (A B : ByteArray) (d : Nat) : Prop := ∀ (i : Nat) (hi : i < B.size), ∃ h : d + i < A.size, A[d + i]'h = B[i]'hi
theorem sg_pure {α : Type} (v : α) (p : Nat) : SgP A B d p (pure v) (pure v) := fun w q h => by
  cases h
  rfl
theorem sg_bind {α β : Type} {r r' : Decoder α} {f f' : α → Decoder β} {p : Nat} (h1 : SgP A B d p r r') (h2 : ∀ a p1, SgP A B d p1 (f a) (f' a)) : SgP A B d p (r >>= f) (r' >>= f') := fun w q h => by
  have e : (r >>= f) B p = (match r B p with | .error e => .error e | .ok (a, p1) => f a B p1) := by
    show (r B p >>= fun x => f x.1 B x.2) = _
    cases r B p <;> rfl
  have e' : (r' >>= f') A (d + p) = (match r' A (d + p) with | .error e => .error e | .ok (a, p1) => f' a A p1) := by
    show (r' A (d + p) >>= fun x => f' x.1 A x.2) = _
    cases r' A (d + p) <;> rfl
  rw [e] at h
  rw [e']
  cases hr : r B p with
  | error x => rw [hr] at h; cases h
  | ok x =>
    obtain ⟨a, p1⟩ := x
    rw [hr] at h
    rw [h1 a p1 hr]
    exact h2 a p1 w q h
theorem sg_u1 (H : SgB A B d) (p : Nat) : SgP A B d p (Reader.u1 : Decoder Nat) Reader.u1 := fun w q h => by
  have e : ∀ (C : ByteArray) (p : Nat), (Reader.u1 : Decoder Nat) C p = if h : p < C.size then .ok ((C[p]'h).toNat, p + 1) else .error (HasTruncated.truncated p) := fun C p => by
    show (if h : p < C.size then (do set (p + 1); pure (C[p]'h).toNat : Decoder Nat) else throw (HasTruncated.truncated p)) C p = _
    by_cases z : p < C.size
    · rw [dif_pos z, dif_pos z]
      rfl
    · rw [dif_neg z, dif_neg z]
      rfl
  rw [e] at h ⊢
  by_cases z : p < B.size
  · rw [dif_pos z] at h
    cases h
    obtain ⟨h1, h2⟩ := H p z
    rw [dif_pos h1, h2]
    rfl
  · rw [dif_neg z] at h
    cases h
theorem sg_u2 (H : SgB A B d) (p : Nat) : SgP A B d p (Reader.u2 : Decoder Nat) Reader.u2 := sg_bind (sg_u1 H p) (fun _ p1 => sg_bind (sg_u1 H p1) (fun _ p2 => sg_pure _ p2))
theorem sg_map {α β : Type} (g : α → β) {r r' : Decoder α} {p : Nat} (h : SgP A B d p r r') : SgP A B d p (g <$> r) (g <$> r') := fun w q hh => by
  have e : ∀ (s : Decoder α) (C : ByteArray) (p : Nat), (g <$> s) C p = (match s C p with | .error e => .error e | .ok (a, p1) => .ok (g a, p1)) := fun s C p => by
    show (g <$> (s C)) p = _
    show ((fun x : α × Nat => (g x.1, x.2)) <$> (s C p)) = _
    cases s C p <;> rfl
  rw [e] at hh ⊢
  cases hr : r B p with
  | error x => rw [hr] at hh; cases hh
  | ok x =>
    have hx := h x.1 x.2 hr
    rw [hr] at hh
    cases hh
    rw [hx]
theorem sg_s1 (H : SgB A B d) (p : Nat) : SgP A B d p (Reader.s1 : Decoder Int) Reader.s1 := sg_map _ (sg_u1 H p)
theorem sg_s2 (H : SgB A B d) (p : Nat) : SgP A B d p (Reader.s2 : Decoder Int) Reader.s2 := sg_map _ (sg_u2 H p)
def sgOps : List Nat := [3, 4, 5, 6, 7, 8, 9, 10, 16, 21, 25, 26, 27, 28, 29, 42, 43, 44, 45, 46, 54, 58, 75, 76, 77, 78, 87, 88, 89, 96, 100, 126, 132, 133, 148, 153, 154, 155, 156, 157, 158, 159, 160, 161, 162, 163, 164, 167, 172, 180, 181, 182, 183, 184, 187, 190]
set_option maxHeartbeats 8000000 in
set_option maxRecDepth 100000 in
theorem sg_arm (H : SgB A B d) {f f' : Nat → Decoder Instr} (pc pc' : Nat) (hf : Decoder.instr pc = Reader.u1 >>= f) (hf' : Decoder.instr pc' = Reader.u1 >>= f') (af : ∀ a, a ∈ sgOps → ∀ p, SgP A B d p (f a) (f' a)) {p : Nat} (hp : ∃ h : p < B.size, (B[p]'h).toNat ∈ sgOps) : SgP A B d p (Decoder.instr pc) (Decoder.instr pc') := by
  rw [hf, hf']
  obtain ⟨h1, h2⟩ := hp
  intro w q h
  have e : (Reader.u1 : Decoder Nat) B p = .ok ((B[p]'h1).toNat, p + 1) := by
    show (if h : p < B.size then (do set (p + 1); pure (B[p]'h).toNat : Decoder Nat) else throw (HasTruncated.truncated p)) B p = _
    rw [dif_pos h1]
    rfl
  have e2 := sg_u1 H p _ _ e
  have eb : (Reader.u1 >>= f) B p = f (B[p]'h1).toNat B (p + 1) := by
    show (Reader.u1 B p >>= fun x => f x.1 B x.2) = _
    rw [e]
    rfl
  have eb' : (Reader.u1 >>= f') A (d + p) = f' (B[p]'h1).toNat A (d + (p + 1)) := by
    show (Reader.u1 A (d + p) >>= fun x => f' x.1 A x.2) = _
    rw [e2]
    rfl
  rw [eb] at h
  rw [eb']
  exact af _ h2 (p + 1) w q h
set_option maxHeartbeats 16000000 in
set_option maxRecDepth 100000 in
theorem sg_instr (H : SgB A B d) (pc pc' : Nat) {p : Nat} (hp : ∃ h : p < B.size, (B[p]'h).toNat ∈ sgOps) : SgP A B d p (Decoder.instr pc) (Decoder.instr pc') := by
  refine sg_arm H pc pc' rfl rfl (fun a ha p => ?_) hp
  simp only [sgOps, List.mem_cons, List.not_mem_nil, or_false] at ha
  rcases ha with rfl | rfl | rfl | rfl | rfl | rfl | rfl | rfl | rfl | rfl | rfl | rfl | rfl | rfl | rfl | rfl | rfl | rfl | rfl | rfl | rfl | rfl | rfl | rfl | rfl | rfl | rfl | rfl | rfl | rfl | rfl | rfl | rfl | rfl | rfl | rfl | rfl | rfl | rfl | rfl | rfl | rfl | rfl | rfl | rfl | rfl | rfl | rfl | rfl | rfl | rfl | rfl | rfl | rfl | rfl | rfl
  all_goals first
    | exact sg_pure _ p
    | exact sg_bind (sg_u1 H p) (fun _ p1 => sg_pure _ p1)
    | exact sg_bind (sg_u2 H p) (fun _ p1 => sg_pure _ p1)
    | exact sg_bind (sg_s1 H p) (fun _ p1 => sg_pure _ p1)
    | exact sg_bind (sg_s2 H p) (fun _ p1 => sg_pure _ p1)
    | exact sg_bind (sg_u1 H p) (fun _ p1 => sg_bind (sg_s1 H p1) (fun _ p2 => sg_pure _ p2))
theorem sg_decode (H : SgB A B d) {p : Nat} (hp : ∃ h : p < B.size, (B[p]'h).toNat ∈ sgOps) {q : Instr × Nat} (h : decode B p = .ok q) : decode A (d + p) = .ok q := by
  have e : ∀ (C : ByteArray) (p : Nat), decode C p = (match Decoder.instr p C p with | .error e => .error e | .ok (i, n) => .ok (i, n - p)) := fun C p => by
    show (Decoder.instr p C p >>= fun x => pure (x.1, x.2 - p)) = _
    cases Decoder.instr p C p <;> rfl
  rw [e] at h ⊢
  cases hr : Decoder.instr p B p with
  | error x => rw [hr] at h; cases h
  | ok x =>
    obtain ⟨i, n⟩ := x
    rw [hr] at h
    cases h
    rw [sg_instr H p (d + p) hp i n hr]
    show Except.ok (i, d + n - (d + p)) = Except.ok (i, n - p)
    rw [Nat.add_sub_add_left]
end SgS
/-- where a piece begins -/
def sgOff {α : Type} : List (List α) → Nat → Nat
  | _, 0 => 0
  | [], _ + 1 => 0
  | r :: rs, t + 1 => r.length + sgOff rs t
theorem sg_flat {α : Type} : ∀ {rows : List (List α)} {t i : Nat} {r : List α}, rows[t]? = some r → i < r.length → rows.flatten[sgOff rows t + i]? = r[i]?
  | [], t, i, r, h, _ => by simp at h
  | x :: rs, 0, i, r, h, hi => by
    simp only [List.getElem?_cons_zero, Option.some.injEq] at h
    subst h
    show (x ++ rs.flatten)[0 + i]? = x[i]?
    rw [Nat.zero_add, List.getElem?_append_left hi]
  | x :: rs, t + 1, i, r, h, hi => by
    rw [List.getElem?_cons_succ] at h
    show (x ++ rs.flatten)[x.length + sgOff rs t + i]? = r[i]?
    rw [List.getElem?_append_right (by omega), show x.length + sgOff rs t + i - x.length = sgOff rs t + i by omega]
    exact sg_flat h hi
theorem sg_B {A : ByteArray} {rows : List (List UInt8)} (hA : A.data.toList = rows.flatten) {t d : Nat} {r : List UInt8} (hr : rows[t]? = some r) (hd : sgOff rows t = d) : SgB A ⟨⟨r⟩⟩ d := fun i hi => by
  have hi2 : i < r.length := hi
  have e := sg_flat hr hi2
  rw [hd, ← hA, List.getElem?_eq_getElem hi2] at e
  obtain ⟨h1, h2⟩ := List.getElem?_eq_some_iff.mp e
  exact ⟨h1, h2⟩
/-- a list of instructions, read in a piece -/
theorem sg_list {A : ByteArray} {rows : List (List UInt8)} (hA : A.data.toList = rows.flatten) {t d : Nat} {r : List UInt8} (hr : rows[t]? = some r) (hd : sgOff rows t = d) {L : List (Nat × Instr × Nat)}
    (h : ∀ q ∈ L, d ≤ q.1 ∧ ((r[q.1 - d]?).getD 0).toNat ∈ sgOps ∧ decode ⟨⟨r⟩⟩ (q.1 - d) = .ok q.2) : ∀ q ∈ L, decode A q.1 = .ok q.2 := fun q hq => by
  obtain ⟨h1, h2, h3⟩ := h q hq
  have hp : ∃ h : q.1 - d < (⟨⟨r⟩⟩ : ByteArray).size, (((⟨⟨r⟩⟩ : ByteArray)[q.1 - d]'h).toNat) ∈ sgOps := by
    rcases Nat.lt_or_ge (q.1 - d) r.length with z | z
    · refine ⟨z, ?_⟩
      rw [List.getElem?_eq_getElem z] at h2
      exact h2
    · rw [List.getElem?_eq_none z] at h2
      exact absurd h2 (by decide)
  have := sg_decode (sg_B hA hr hd) hp h3
  rwa [show d + (q.1 - d) = q.1 by omega] at this
