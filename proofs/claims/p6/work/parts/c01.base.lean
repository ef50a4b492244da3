/-! THE CLASS, strongly: fifty-two terms at places B i, their letters at Q i (printed by wip/p20/genS1.py) -/
abbrev TC : Type := List Int32 × Bool
/-- how many letters each has room for: slots 0 to 5, answers 6 + 8 k + n, the spare ones 30, 31, the wide ones 32, 33, spare answers 34 + n, 42 + n, both 50, 51 -/
def rmI (i : Nat) : Nat := if i < 32 then 16 else if i < 34 then 256 else if i < 50 then 16 else 32
theorem rmI_le (i : Nat) : rmI i ≤ 256 := by unfold rmI; split <;> (try split) <;> (try split) <;> omega
theorem rmI_ge (i : Nat) : 16 ≤ rmI i := by unfold rmI; split <;> (try split) <;> (try split) <;> omega
def TmX (h : AH) (b q L : Nat) (t : TC) : Prop := t.1.length ≤ L ∧ h b = some (7, [.ref q, vI t.1.length, .int (bI t.2)]) ∧ ∃ xs : List Int32, h q = some (107, xs.map Value.int) ∧ xs.length = L ∧ xs.take t.1.length = t.1
def TS (B Q : Nat → Nat) (h : AH) (F : Nat → TC) : Prop := ∀ i, i < 52 → TmX h (B i) (Q i) (rmI i) (F i)
def LYO (B Q : Nat → Nat) : Prop := (∀ i j, i < 52 → j < 52 → B i = B j → i = j) ∧ (∀ i j, i < 70 → j < 70 → Q i = Q j → i = j)
def upF (F : Nat → TC) (i : Nat) (c : TC) : Nat → TC := fun j => if j = i then c else F j
theorem upF_self (F : Nat → TC) (i : Nat) (c : TC) : upF F i c i = c := if_pos rfl
theorem upF_ne (F : Nat → TC) {i j : Nat} (c : TC) (h : j ≠ i) : upF F i c j = F j := if_neg h
theorem upF_up (F : Nat → TC) (i : Nat) (c d : TC) : upF (upF F i c) i d = upF F i d := by
  funext j
  unfold upF
  by_cases e : j = i
  · rw [if_pos e, if_pos e]
  · rw [if_neg e, if_neg e, if_neg e]
theorem upF_same (F : Nat → TC) (i : Nat) : upF F i (F i) = F := by
  funext j
  unfold upF
  by_cases e : j = i
  · rw [if_pos e, e]
  · rw [if_neg e]
/-- only terms' cells change -/
def FrT (B Q : Nat → Nat) (h h' : AH) : Prop := ∀ a : Nat, (∀ i, i < 52 → a ≠ B i ∧ a ≠ Q i) → h' a = h a
theorem FrT.rf {B Q : Nat → Nat} (h : AH) : FrT B Q h h := fun _ _ => rfl
theorem FrT.trans {B Q : Nat → Nat} {h1 h2 h3 : AH} (x : FrT B Q h1 h2) (y : FrT B Q h2 h3) : FrT B Q h1 h3 := fun a k => (y a k).trans (x a k)
theorem FrT.setB {B Q : Nat → Nat} {h h' : AH} (x : FrT B Q h h') {i : Nat} (hi : i < 52) (c : AC) : FrT B Q h (hup h' (B i) c) := fun a k => by
  rw [hup_ne _ _ (k i hi).1]
  exact x a k
theorem FrT.setQ {B Q : Nat → Nat} {h h' : AH} (x : FrT B Q h h') {i : Nat} (hi : i < 52) (c : AC) : FrT B Q h (hup h' (Q i) c) := fun a k => by
  rw [hup_ne _ _ (k i hi).2]
  exact x a k
section TSs
variable {B Q : Nat → Nat} {h h' : AH} {F : Nat → TC}
theorem TS.bq (S : TS B Q h F) {i j : Nat} (hi : i < 52) (hj : j < 52) : B i ≠ Q j := by
  obtain ⟨-, b1, -⟩ := S i hi
  obtain ⟨-, -, xs, b2, -⟩ := S j hj
  exact k_ne b1 b2 (by decide)
/-- cells of another kind stay -/
theorem FrT.keep (S : TS B Q h F) (x : FrT B Q h h') {a k : Nat} {vs : List Value} (e : h a = some (k, vs)) (h7 : k ≠ 7) (h8 : k ≠ 107) : h' a = some (k, vs) := by
  rw [x a (fun i hi => ?_)]
  · exact e
  · obtain ⟨-, b1, xs, b2, -⟩ := S i hi
    exact ⟨k_ne e b1 h7, k_ne e b2 h8⟩
theorem TS.fld (Y : LYO B Q) (S : TS B Q h F) {i : Nat} (hi : i < 52) {t : TC} (ht : t.1.length ≤ rmI i) {xs : List Int32} (hx : h (Q i) = some (107, xs.map Value.int)) (hl : xs.length = rmI i) (hk : xs.take t.1.length = t.1) :
    TS B Q (hup h (B i) (7, [.ref (Q i), vI t.1.length, .int (bI t.2)])) (upF F i t) := by
  intro j hj
  by_cases e : j = i
  · subst e
    rw [upF_self]
    exact ⟨ht, hup_self _ _ _, xs, by rw [hup_ne _ _ (S.bq hi hi).symm]; exact hx, hl, hk⟩
  · obtain ⟨a1, a2, ys, a3, a4, a5⟩ := S j hj
    rw [upF_ne _ _ e]
    exact ⟨a1, by rw [hup_ne _ _ (fun z => e (Y.1 _ _ hj hi z))]; exact a2, ys, by rw [hup_ne _ _ (S.bq hi hj).symm]; exact a3, a4, a5⟩
theorem TS.arr (Y : LYO B Q) (S : TS B Q h F) {i : Nat} (hi : i < 52) {xs : List Int32} (hl : xs.length = rmI i) (hk : xs.take (F i).1.length = (F i).1) {j : Nat} (hj : (F i).1.length ≤ j) (v : Int32) :
    TS B Q (hup h (Q i) (107, (xs.set j v).map Value.int)) F := by
  intro u hu
  obtain ⟨a1, a2, ys, a3, a4, a5⟩ := S u hu
  refine ⟨a1, by rw [hup_ne _ _ (S.bq hu hi)]; exact a2, ?_⟩
  by_cases e : u = i
  · subst e
    refine ⟨xs.set j v, hup_self _ _ _, by rw [List.length_set]; exact hl, ?_⟩
    rw [List.take_set, List.set_eq_of_length_le (by rw [List.length_take]; omega)]
    exact hk
  · exact ⟨ys, by rw [hup_ne _ _ (fun z => e (Y.2 _ _ (by omega) (by omega) z))]; exact a3, a4, a5⟩
end TSs
theorem take_get {xs ts : List Int32} {n j : Nat} {x : Int32} (h : xs.take n = ts) (hj : ts[j]? = some x) : xs[j]? = some x := by
  rw [← h, List.getElem?_take] at hj
  split at hj
  · exact hj
  · cases hj
theorem nI_lt_of {x : Int32} {n : Nat} (h1 : ¬ x < 0) (h : x.toNatClampNeg < n) (hn : n < 2 ^ 31) : x < nI n := by
  obtain ⟨j, hj, rfl⟩ := nI_of h1
  rw [nI_clamp hj] at h
  exact (nI_ltI hj hn).mpr h
/-- a letter, or REFUSED -/
def ltX (ts : List Int32) (x : Int32) : Int32 := if x < 0 then (Int8.ofInt (-9)).toInt32 else (ts[x.toNatClampNeg]?).getD ((Int8.ofInt (-9)).toInt32)
theorem ltX_nI {ts : List Int32} {j : Nat} {x : Int32} (hj : j < 2 ^ 31) (h : ts[j]? = some x) : ltX ts (nI j) = x := by
  unfold ltX
  rw [if_neg (nI_pos hj), nI_clamp hj, h]
  rfl
theorem ltX_out {ts : List Int32} {j : Nat} (hj : j < 2 ^ 31) (h : ts.length ≤ j) : ltX ts (nI j) = (Int8.ofInt (-9)).toInt32 := by
  unfold ltX
  rw [if_neg (nI_pos hj), nI_clamp hj, List.getElem?_eq_none h]
  rfl
/-- one letter more, if there is room -/
def addC (L : Nat) (t : TC) (x : Int32) : TC := if t.1.length < L then (t.1 ++ [x], t.2) else (t.1, true)
def addR (L : Nat) (t : TC) (ys : List Int32) : TC := ys.foldl (addC L) t
def addT (L : Nat) (t u : TC) : TC := ((addR L t u.1).1, (addR L t u.1).2 || u.2)
theorem addC_len {L : Nat} {t : TC} (h : t.1.length ≤ L) (x : Int32) : (addC L t x).1.length ≤ L := by
  unfold addC
  split
  · simp; omega
  · exact h
theorem addR_eq (L : Nat) : ∀ (ys : List Int32) (t : TC), t.1.length ≤ L → addR L t ys = ((t.1 ++ ys).take L, t.2 || decide (L < t.1.length + ys.length)) := by
  intro ys
  induction ys with
  | nil =>
    intro t ht
    rw [List.append_nil, List.take_of_length_le ht]
    have : decide (L < t.1.length + ([] : List Int32).length) = false := decide_eq_false (by simp; omega)
    rw [this, Bool.or_false]
    rfl
  | cons y r ih =>
    intro t ht
    show addR L (addC L t y) r = _
    rw [ih _ (addC_len ht y)]
    unfold addC
    by_cases e : t.1.length < L
    · rw [if_pos e]
      refine Prod.ext ?_ ?_
      · simp
      · show (t.2 || _) = (t.2 || _)
        congr 1
        exact decide_eq_decide.mpr (by simp; omega)
    · rw [if_neg e]
      refine Prod.ext ?_ ?_
      · show (t.1 ++ r).take L = (t.1 ++ y :: r).take L
        rw [List.take_append_of_le_length (by omega), List.take_append_of_le_length (by omega)]
      · show (true || decide (L < t.1.length + r.length)) = (t.2 || decide (L < t.1.length + (y :: r).length))
        rw [Bool.true_or, decide_eq_true (p := L < t.1.length + (y :: r).length) (by simp; omega), Bool.or_true]
theorem addR_fit {L : Nat} {t : TC} {ys : List Int32} (h : t.1.length + ys.length ≤ L) : addR L t ys = (t.1 ++ ys, t.2) := by
  rw [addR_eq L ys t (by omega), List.take_of_length_le (by simp; omega), decide_eq_false (by omega), Bool.or_false]
theorem addT_fit {L : Nat} {t u : TC} (h : t.1.length + u.1.length ≤ L) : addT L t u = (t.1 ++ u.1, t.2 || u.2) := by
  unfold addT
  rw [addR_fit h]
theorem addR_len {L : Nat} {t : TC} (h : t.1.length ≤ L) (ys : List Int32) : (addR L t ys).1.length ≤ L := by
  rw [addR_eq L ys t h]
  show (List.take L _).length ≤ L
  rw [List.length_take]
  omega
section A7
variable {p : Program} {la : Launch} {e : Env} {R : Room} {s : State} {m : MethodId} {args : Array Value} {below : List Frame} {meth : Method} {c : Code} {Q : State → Prop}
variable {D : va_G} {cA : Nat → ClassId} {B0 nL : Nat} {cc : ByteArray} {own : String} {pc k n : Nat} {l : List (Nat × Value)} {r : List Value} {h : AH}
/-- a number of a row of the class -/
theorem ald7v_ok (X : CX p s m args c D cA B0 nL cc own) {a : Nat} {xs : List Int32} {j x : Int32} (hd : decode cc pc = .ok (.iaload, 1)) (ha : h a = some (107, xs.map Value.int)) (hj : ¬ j < 0) (hl : xs[j.toNatClampNeg]? = some x)
    (kk : WS p la e R s m args below meth c Q D cA B0 nL (pc + 1) l (.int x :: r) h k n) : WS p la e R s m args below meth c Q D cA B0 nL pc l (.int j :: .ref a :: r) h k n := by
  obtain ⟨hx, hb, hml, hown, hts, hK, hB⟩ := X
  intro H locs ls hH hls
  obtain ⟨hk7, hc⟩ := (hH.1 a _ ha).2.2 (by show ¬ 107 < 100; omega)
  have hl0 : j.toNatClampNeg < xs.length := (List.getElem?_eq_some_iff.mp hl).1
  have hlt : j.toNatClampNeg < (xs.map Value.int).length := by rw [List.length_map]; exact hl0
  have hin : ¬ (j < 0 ∨ (arrV (cA 107) (xs.map Value.int).length (vp_V (xs.map Value.int))).slots.size ≤ j.toNatClampNeg) := by
    rw [arrV_size]; rintro (q | q)
    · exact hj q
    · omega
  have hv : (arrV (cA 107) (xs.map Value.int).length (vp_V (xs.map Value.int))).slots[j.toNatClampNeg]? = some (.int x) := by rw [arrV_read _ _ hlt, vp_V_get (v := .int x) (by rw [List.getElem?_map, hl]; rfl)]
  exact W.iald hx hb hc (hK.arr (k := 107) (by omega) (by omega) _ _) (fun q => by cases q) hin hv rfl rfl hd (kk H locs ls hH hls)
end A7
