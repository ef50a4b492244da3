/-! what names come to in the end, with all that names stand for -/
def exN (E : Nat → List Nat) (y : Nat) : List Nat := if y < 10 then E y else [y]
def exF (E : Nat → List Nat) (xs : List Nat) : List Nat := xs.flatMap (exN E)
/-- each name comes to what it stands for, with all that names in that come to -/
def ExP (X : List Nat) (S : SS) (E : Nat → List Nat) : Prop := ∀ x, E x = (match S x with
  | none => [x]
  | some q => exF E (sub' X q))
def exS (X : List Nat) (S : SS) : Nat → Nat → List Nat
  | 0, x => [x]
  | k + 1, x => match S x with
    | none => [x]
    | some q => exF (exS X S k) (sub' X q)
theorem exF_congr {E E' : Nat → List Nat} : ∀ {xs : List Nat}, (∀ y ∈ xs, y < 10 → E y = E' y) → exF E xs = exF E' xs
  | [], _ => rfl
  | x :: r, h => by
    unfold exF
    rw [List.flatMap_cons, List.flatMap_cons]
    have h2 : r.flatMap (exN E) = r.flatMap (exN E') := exF_congr (xs := r) (fun y hy => h y (List.mem_cons_of_mem _ hy))
    rw [h2]
    congr 1
    unfold exN
    by_cases hx : x < 10
    · rw [if_pos hx, if_pos hx]
      exact h x List.mem_cons_self hx
    · rw [if_neg hx, if_neg hx]
theorem mem_sub {X : List Nat} (hX : BX X) {q y : Nat} (hq : q < X.length) (h : y ∈ sub' X q) : ∃ i, i < tl X q ∧ gl X (q + i) = y := by
  obtain ⟨i, hi, e⟩ := List.mem_iff_getElem.mp h
  have a1 := bx_tl hX hq
  have hl := sub_len hX hq
  have e2 : (sub' X q)[i]? = some y := by rw [List.getElem?_eq_getElem hi, e]
  refine ⟨i, by omega, ?_⟩
  have e3 : (sub' X q)[i]? = some (gl X (q + i)) := by
    unfold sub'
    rw [List.getElem?_take_of_lt (by omega), List.getElem?_drop]
    exact gl_get (by omega)
  rw [e2] at e3
  exact (Option.some.inj e3).symm
/-- ranks of names -/
def RkP (X : List Nat) (S : SS) (rk : Nat → Nat) : Prop := ∀ x q, S x = some q → ∀ y ∈ sub' X q, y < 10 → rk y < rk x
theorem Ac.rk {X : List Nat} (hX : BX X) {S : SS} (hS : S1 X S) (hA : Ac X S) : ∃ (rk : Nat → Nat) (K : Nat), (∀ x, rk x < K) ∧ RkP X S rk := by
  obtain ⟨rk, K, h1, h2⟩ := hA
  refine ⟨rk, K, h1, fun x q hq y hy hn => ?_⟩
  obtain ⟨i, hi, rfl⟩ := mem_sub hX (hS x q hq).2.1 hy
  exact h2 x q hq i hi hn
theorem exS_stable {X : List Nat} {S : SS} {rk : Nat → Nat} (h : RkP X S rk) : ∀ k x, rk x < k → exS X S (k + 1) x = exS X S k x := by
  intro k
  induction k with
  | zero => intro x hx; omega
  | succ k ih =>
    intro x hx
    show (match S x with | none => [x] | some q => exF (exS X S (k + 1)) (sub' X q)) = (match S x with | none => [x] | some q => exF (exS X S k) (sub' X q))
    cases e : S x with
    | none => rfl
    | some q =>
      exact exF_congr (fun y hy hn => ih y (by have := h x q e y hy hn; omega))
theorem ExP.ex {X : List Nat} (hX : BX X) {S : SS} (hS : S1 X S) (hA : Ac X S) : ∃ E, ExP X S E := by
  obtain ⟨rk, K, h1, h2⟩ := hA.rk hX hS
  refine ⟨exS X S K, fun x => ?_⟩
  rw [← exS_stable h2 K x (h1 x)]
  rfl
theorem ExP.uq {X : List Nat} (hX : BX X) {S : SS} (hS : S1 X S) (hA : Ac X S) {E E' : Nat → List Nat} (h : ExP X S E) (h' : ExP X S E') : ∀ x, E x = E' x := by
  obtain ⟨rk, K, h1, h2⟩ := hA.rk hX hS
  have key : ∀ n x, rk x < n → E x = E' x := by
    intro n
    induction n with
    | zero => intro x hx; omega
    | succ n ih =>
      intro x hx
      rw [h x, h' x]
      cases e : S x with
      | none => rfl
      | some q => exact exF_congr (fun y hy hn => ih y (by have := h2 x q e y hy hn; omega))
  exact fun x => key K x (h1 x)
theorem exF_used (E : Nat → List Nat) {xs : List Nat} (hx : ∀ y ∈ xs, okL y) : exF E xs = usedL ((List.range 8).map E) xs := by
  induction xs with
  | nil => rfl
  | cons x r ih =>
    rw [usedL_cons, ← ih (fun y hy => hx y (List.mem_cons_of_mem _ hy))]
    show (x :: r).flatMap (exN E) = _
    rw [List.flatMap_cons]
    show exN E x ++ exF E r = _
    congr 1
    unfold exN useL
    rcases hx x List.mem_cons_self with h8 | h8
    · rw [if_pos (by omega), if_pos (by omega), List.getD_eq_getElem?_getD, List.getElem?_map, List.getElem?_range h8]
      rfl
    · rw [if_neg (by omega), if_neg (by omega)]
theorem ExP.tw {X : List Nat} (hX : BX X) {S : SS} (hS : S1 X S) (hA : Ac X S) {E : Nat → List Nat} (h : ExP X S E) : ∀ x, x < 8 → TW (E x) := by
  obtain ⟨rk, K, h1, h2⟩ := hA.rk hX hS
  have key : ∀ n x, rk x < n → x < 8 → TW (E x) := by
    intro n
    induction n with
    | zero => intro x hx; omega
    | succ n ih =>
      intro x hx h8
      rw [h x]
      cases e : S x with
      | none => exact TW.name h8
      | some q =>
        have hql := (hS x q e).2.1
        have tw := sub_TW hX hql
        show TW (exF E (sub' X q))
        rw [exF_congr (E' := fun y => if y ∈ sub' X q then E y else [y]) (fun y hy _ => (if_pos hy).symm), exF_used _ tw.2]
        refine TW.used (fun r hr => ?_) (by simp) tw
        obtain ⟨y, hy, rfl⟩ := List.mem_map.mp hr
        have hy8 := List.mem_range.mp hy
        by_cases hm : y ∈ sub' X q
        · rw [if_pos hm]
          exact ih y (by have := h2 x q e y hm (by omega); omega) hy8
        · rw [if_neg hm]
          exact TW.name hy8
  exact fun x hx => key K x (h1 x) hx
theorem exN_pos {E : Nat → List Nat} (h : ∀ x, x < 8 → TW (E x)) {y : Nat} (hy : okL y) : 0 < (exN E y).length := by
  unfold exN
  rcases hy with z | z
  · rw [if_pos (by omega)]
    exact (h y z).pos
  · rw [if_neg (by omega)]
    exact Nat.zero_lt_one
theorem exF_len {E : Nat → List Nat} (h : ∀ x, x < 8 → TW (E x)) : ∀ {xs : List Nat}, (∀ y ∈ xs, okL y) → xs.length ≤ (exF E xs).length
  | [], _ => Nat.zero_le _
  | x :: r, hx => by
    have i1 := exF_len h (xs := r) (fun y hy => hx y (List.mem_cons_of_mem _ hy))
    have i2 := exN_pos h (hx x List.mem_cons_self)
    show r.length + 1 ≤ ((x :: r).flatMap (exN E)).length
    rw [List.flatMap_cons, List.length_append]
    show r.length + 1 ≤ (exN E x).length + (exF E r).length
    omega
theorem exF_app (E : Nat → List Nat) (xs ys : List Nat) : exF E (xs ++ ys) = exF E xs ++ exF E ys := List.flatMap_append
theorem exF_cons (E : Nat → List Nat) (x : Nat) (xs : List Nat) : exF E (x :: xs) = exN E x ++ exF E xs := List.flatMap_cons
/-- the reference's putting-in comes to the same -/
theorem wh_rel {X : List Nat} (hX : BX X) {S : SS} (hS : S1 X S) (hA : Ac X S) {E : Nat → List Nat} (hE : ExP X S E) : ∀ (f : Nat) (xs : List Nat) (a : Nat) (r : List Nat) (C N : Nat), (∀ y ∈ xs, okL y) → whF f (smO X S) xs a = some (r, C, N) →
    ((xs.take a ++ exF E (xs.drop a)).length ≤ 16 → r = xs.take a ++ exF E (xs.drop a)) ∧ (16 < (xs.take a ++ exF E (xs.drop a)).length → 16 < r.length) := by
  have tw := hE.tw hX hS hA
  intro f
  induction f with
  | zero => intro xs a r C N hx h; cases h
  | succ f ih =>
    intro xs a r C N hx h
    rw [whF] at h
    by_cases c : a < xs.length ∧ xs.length ≤ 16
    · rw [if_pos c] at h
      have hg : xs[a]? = some (xs.getD a 10) := by rw [List.getD_eq_getElem?_getD, List.getElem?_eq_getElem c.1]; rfl
      have hok := hx _ (List.mem_of_getElem? hg)
      have hd := drop_cons hg
      cases e : stAt (smO X S) xs a with
      | some t =>
        rw [e] at h
        dsimp only at h
        unfold stAt at e
        by_cases hn : xs.getD a 10 < 10
        · rw [if_pos hn] at e
          obtain ⟨q, h8, hq, rfl⟩ := smO_inv e
          have hql := (hS _ q hq).2.1
          have tq := sub_TW hX hql
          cases e2 : whF f (smO X S) (xs.take a ++ sub' X q ++ xs.drop (a + 1)) a with
          | none => rw [e2] at h; cases h
          | some w =>
            obtain ⟨r2, c2, n2⟩ := w
            rw [e2] at h
            simp only [Option.some.injEq, Prod.mk.injEq] at h
            obtain ⟨rfl, -, -⟩ := h
            have z := ih _ a r2 c2 n2 (fun y hy => by
              rcases List.mem_append.mp hy with k | k
              · rcases List.mem_append.mp k with k | k
                · exact hx y (List.mem_of_mem_take k)
                · exact tq.2 y k
              · exact hx y (List.mem_of_mem_drop k)) e2
            have hl : (xs.take a).length = a := by rw [List.length_take]; omega
            have e3 : (xs.take a ++ sub' X q ++ xs.drop (a + 1)).take a ++ exF E ((xs.take a ++ sub' X q ++ xs.drop (a + 1)).drop a) = xs.take a ++ exF E (xs.drop a) := by
              rw [List.append_assoc, List.take_append_of_le_length (by omega), List.take_of_length_le (by omega), List.drop_append_of_le_length (by omega), List.drop_of_length_le (by omega), List.nil_append, exF_app, hd, exF_cons]
              congr 2
              unfold exN
              rw [if_pos hn, hE (xs.getD a 10), hq]
            rw [e3] at z
            exact z
        · rw [if_neg hn] at e
          cases e
      | none =>
        rw [e] at h
        dsimp only at h
        have z := ih xs (a + 1) r C N hx h
        have e3 : xs.take (a + 1) ++ exF E (xs.drop (a + 1)) = xs.take a ++ exF E (xs.drop a) := by
          rw [List.take_add_one, hg, hd, exF_cons, List.append_assoc]
          congr 2
          unfold exN
          unfold stAt at e
          by_cases hn : xs.getD a 10 < 10
          · rw [if_pos hn] at e ⊢
            have h8 : xs.getD a 10 < 8 := by rcases hok with z | z <;> omega
            rw [smO_get X S h8] at e
            rw [hE (xs.getD a 10)]
            cases e4 : S (xs.getD a 10) with
            | none => rfl
            | some q => rw [e4] at e; cases e
          · rw [if_neg hn]
            rfl
        rw [e3] at z
        exact z
    · rw [if_neg c] at h
      simp only [Option.some.injEq, Prod.mk.injEq] at h
      obtain ⟨rfl, -, -⟩ := h
      have hle := exF_len tw (xs := xs.drop a) (fun y hy => hx y (List.mem_of_mem_drop hy))
      rw [List.length_append]
      rw [List.length_drop] at hle
      rw [List.length_take]
      rcases Nat.lt_or_ge a xs.length with ha | ha
      · exact ⟨fun k => by omega, fun _ => by omega⟩
      · rw [List.drop_eq_nil_of_le ha, List.take_of_length_le ha]
        refine ⟨fun _ => by rw [show exF E [] = [] from rfl, List.append_nil], fun k => ?_⟩
        rw [show exF E [] = [] from rfl] at k
        simp only [List.length_nil] at k
        omega
/-- a term that holds these letters, or too long -/
def RP16 (t : TC) (z : List Nat) : Prop := (z.length ≤ 16 ∧ t = (z.map nI, false)) ∨ (16 < z.length ∧ t.2 = true ∧ t.1.length ≤ 16)
theorem RP16.add {t u : TC} {z y : List Nat} (h : RP16 t z) (g : RP16 u y) : RP16 (addT 16 t u) (z ++ y) := by
  have hl : (z ++ y).length = z.length + y.length := List.length_append
  rcases h with ⟨h1, rfl⟩ | ⟨h1, h2, h3⟩
  · rcases g with ⟨g1, rfl⟩ | ⟨g1, g2, g3⟩
    · rw [addT_rows, addR_eq _ _ _ (by show (z.map nI).length ≤ 16; rw [List.length_map]; exact h1)]
      show RP16 ((z.map nI ++ y.map nI).take 16, (false || decide (16 < (z.map nI).length + (y.map nI).length))) (z ++ y)
      rw [← List.map_append, List.length_map, List.length_map, Bool.false_or]
      rcases Nat.lt_or_ge 16 (z.length + y.length) with c | c
      · refine Or.inr ⟨by omega, decide_eq_true c, ?_⟩
        show (List.take 16 ((z ++ y).map nI)).length ≤ 16
        rw [List.length_take]
        omega
      · refine Or.inl ⟨by omega, ?_⟩
        rw [List.take_of_length_le (by rw [List.length_map]; omega), decide_eq_false (by omega)]
    · refine Or.inr ⟨by omega, ?_, addR_len (by show (z.map nI).length ≤ 16; rw [List.length_map]; exact h1) _⟩
      show (_ || u.2) = true
      rw [g2, Bool.or_true]
  · refine Or.inr ⟨by omega, ?_, addR_len h3 _⟩
    show ((addR 16 t u.1).2 || u.2) = true
    rw [addR_eq _ _ _ h3, h2]
    rfl
theorem RP16.one {t : TC} {z : List Nat} (h : RP16 t z) (x : Nat) : RP16 (addC 16 t (nI x)) (z ++ [x]) := by
  have e : addC 16 t (nI x) = addT 16 t (([x] : List Nat).map nI, false) := by
    rw [addT_rows]
    rfl
  rw [e]
  exact h.add (Or.inl ⟨Nat.le_of_ble_eq_true rfl, rfl⟩)
theorem RP16.len {t : TC} {z : List Nat} (h : RP16 t z) : t.1.length ≤ 16 := by
  rcases h with ⟨h1, rfl⟩ | ⟨h1, h2, h3⟩
  · show (z.map nI).length ≤ 16
    rw [List.length_map]
    exact h1
  · exact h3
theorem RP16.flag {t : TC} {z : List Nat} (h : RP16 t z) : t.2 = decide (16 < z.length) := by
  rcases h with ⟨h1, rfl⟩ | ⟨h1, h2, h3⟩
  · exact (decide_eq_false (by omega)).symm
  · rw [h2, decide_eq_true h1]
theorem auC_rep {u : Nat} {F : Nat → TC} {E : Nat → List Nat} : ∀ (ns : List Nat) (t : TC) (z : List Nat), (∀ x ∈ ns, okL x) → (∀ x ∈ ns, x < 8 → RP16 (F (u + x)) (E x)) → RP16 t z → RP16 (auC 16 F u t ns) (z ++ exF E ns) := by
  intro ns
  induction ns with
  | nil =>
    intro t z _ _ h
    rw [show exF E [] = [] from rfl, List.append_nil]
    exact h
  | cons x r ih =>
    intro t z hx hF h
    rw [exF_cons, ← List.append_assoc]
    refine ih _ _ (fun y hy => hx y (List.mem_cons_of_mem _ hy)) (fun y hy => hF y (List.mem_cons_of_mem _ hy)) ?_
    unfold exN
    show RP16 (if x < 8 then addT 16 t (F (u + x)) else addC 16 t (nI x)) (z ++ (if x < 10 then E x else [x]))
    rcases hx x List.mem_cons_self with h8 | h8
    · rw [if_pos h8, if_pos (by omega)]
      exact h.add (hF x List.mem_cons_self h8)
    · rw [if_neg (by omega), if_neg (by omega)]
      exact h.one x
theorem nI_and (a b : Nat) : nI a &&& nI b = nI (a &&& b) := by
  apply Int32.toBitVec_inj.mp
  show BitVec.ofNat 32 a &&& BitVec.ofNat 32 b = BitVec.ofNat 32 (a &&& b)
  apply BitVec.eq_of_getLsbD_eq
  intro i hi
  rw [BitVec.getLsbD_and, BitVec.getLsbD_ofNat, BitVec.getLsbD_ofNat, BitVec.getLsbD_ofNat, Nat.testBit_and]
  simp [hi]
theorem n255 : ∀ m : Nat, m < 256 → nI 255 &&& (nI m ^^^ Int32.ofInt (-1)) = nI (255 ^^^ m) := by decide +kernel
theorem a255 : ∀ m : Nat, m < 256 → nI m &&& nI 255 = nI m := by decide +kernel
theorem bt_tb (s y : Nat) : bt s y ↔ s.testBit y = true := by
  unfold bt
  rw [Nat.testBit_eq_decide_div_mod_eq, Nat.shiftRight_eq_div_pow, decide_eq_true_eq]
/-- all of one set stands in another one -/
theorem in_set {a m : Nat} (ha : a < 256) (hm : m < 256) : nI a &&& (nI m ^^^ Int32.ofInt (-1)) = 0 ↔ ∀ y, y < 8 → bt a y → bt m y := by
  have e : nI a &&& (nI m ^^^ Int32.ofInt (-1)) = nI (a &&& (255 ^^^ m)) := by
    rw [← a255 a ha, Int32.and_assoc, n255 m hm, nI_and]
  rw [e]
  have hlt : a &&& (255 ^^^ m) < 2 ^ 31 := by have := Nat.and_le_left (n := a) (m := 255 ^^^ m); omega
  constructor
  · intro h y hy h1
    have h0 : a &&& (255 ^^^ m) = 0 := nI_inj (b := 0) hlt (by decide) h
    have h2 := congrArg (fun z : Nat => z.testBit y) h0
    simp only [Nat.testBit_and, Nat.testBit_xor, Nat.zero_testBit] at h2
    rw [(bt_tb a y).mp h1, show (255 : Nat) = 2 ^ 8 - 1 from rfl, Nat.testBit_two_pow_sub_one, decide_eq_true hy] at h2
    rw [bt_tb]
    cases hz : m.testBit y with
    | true => rfl
    | false => rw [hz] at h2; cases h2
  · intro h
    have h0 : a &&& (255 ^^^ m) = 0 := by
      apply Nat.eq_of_testBit_eq
      intro y
      rw [Nat.testBit_and, Nat.testBit_xor, Nat.zero_testBit, show (255 : Nat) = 2 ^ 8 - 1 from rfl, Nat.testBit_two_pow_sub_one]
      cases h1 : a.testBit y with
      | false => rfl
      | true =>
        have hy : y < 8 := by
          rcases Nat.lt_or_ge y 8 with z | z
          · exact z
          · rw [Nat.testBit_lt_two_pow (Nat.lt_of_lt_of_le ha (Nat.pow_le_pow_right (by decide : 0 < 2) z))] at h1
            cases h1
        rw [(bt_tb m y).mp (h y hy ((bt_tb a y).mpr h1)), decide_eq_true hy]
        rfl
    rw [h0]
    rfl
theorem bt_set {m n y : Nat} (hy : y < 10) : bt (m ||| 2 ^ n) y ↔ bt m y ∨ y = n := by
  rw [bt_or]
  constructor
  · rintro (h | h)
    · exact Or.inl h
    · rw [bt_tb, Nat.testBit_two_pow, decide_eq_true_eq] at h
      exact Or.inr h.symm
  · rintro (h | h)
    · exact Or.inl h
    · refine Or.inr ?_
      rw [bt_tb, Nat.testBit_two_pow, decide_eq_true_eq]
      exact h.symm
theorem set_lt {m n : Nat} (hm : m < 256) (hn : n < 8) : m ||| 2 ^ n < 256 := Nat.or_lt_two_pow (n := 8) hm (Nat.pow_lt_pow_right (by decide) hn)
/-- among the names that aren't ready is one for which all is ready -/
theorem rdy_ex {X : List Nat} (hX : BX X) {S : SS} (hS : S1 X S) {rk : Nat → Nat} (hR : RkP X S rk) {m : Nat} : ∀ (k n : Nat), rk n < k → n < 8 → ¬ bt m n → ∃ n', n' < 8 ∧ ¬ bt m n' ∧ ∀ q, S n' = some q → ∀ y ∈ sub' X q, y < 8 → bt m y := by
  intro k
  induction k with
  | zero => intro n h; omega
  | succ k ih =>
    intro n h h8 hn
    by_cases c : ∀ q, S n = some q → ∀ y ∈ sub' X q, y < 8 → bt m y
    · exact ⟨n, h8, hn, c⟩
    · obtain ⟨q, c⟩ := Classical.not_forall.mp c
      obtain ⟨hq, c⟩ := Classical.not_imp.mp c
      obtain ⟨y, c⟩ := Classical.not_forall.mp c
      obtain ⟨hy, c⟩ := Classical.not_imp.mp c
      obtain ⟨hy8, c⟩ := Classical.not_imp.mp c
      exact ih y (by have := hR n q hq y hy (by omega); omega) hy8 c
