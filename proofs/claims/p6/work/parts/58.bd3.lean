/-! the bound on the steps, 3: what a name stands for, by places; rows of places -/
def dpF (X : List Nat) (S : SS) : Nat → Nat → Nat
  | 0, p => p
  | f + 1, p => if gl X p < 10 then (match S (gl X p) with
    | some q => dpF X S f q
    | none => p) else p
def dp (X : List Nat) (S : SS) (p : Nat) : Nat := dpF X S 9 p
def S1 (X : List Nat) (S : SS) : Prop := ∀ x q, S x = some q → x < 8 ∧ q < X.length ∧ (gl X q < 10 → gl X q < x)
def smO (X : List Nat) (S : SS) : SM := (List.range 8).map (fun x => (S x).map (sub' X))
theorem smO_get (X : List Nat) (S : SS) {x : Nat} (hx : x < 8) : (smO X S).getD x none = (S x).map (sub' X) := by
  unfold smO
  rw [List.getD_eq_getElem?_getD, List.getElem?_map, List.getElem?_range hx]
  rfl
theorem smO_set (X : List Nat) (S : SS) {x : Nat} (hx : x < 8) (t : Nat) : (smO X S).set x (some (sub' X t)) = smO X (upS S x t) := by
  refine List.ext_getElem? (fun i => ?_)
  unfold smO
  by_cases h : i = x
  · subst h
    rw [List.getElem?_set_self (by simp; omega), List.getElem?_map, List.getElem?_range hx]
    show some (some (sub' X t)) = some ((upS S i t i).map (sub' X))
    rw [upS_self]
    rfl
  · rw [List.getElem?_set_ne (Ne.symm h), List.getElem?_map, List.getElem?_map]
    rcases Nat.lt_or_ge i 8 with q | q
    · rw [List.getElem?_range q]
      show some ((S i).map (sub' X)) = some ((upS S x t i).map (sub' X))
      rw [upS_ne _ _ h]
    · rw [List.getElem?_eq_none (by simpa using q)]
      rfl
theorem sub_len {X : List Nat} (hX : BX X) {p : Nat} (hp : p < X.length) : (sub' X p).length = tl X p := by
  have := (bx_tl hX hp).2.2
  unfold sub'
  rw [List.length_take, List.length_drop]
  omega
theorem sub_cons {X : List Nat} (hX : BX X) {p : Nat} (hp : p < X.length) : sub' X p = gl X p :: (X.drop (p + 1)).take (tl X p - 1) := by
  have := (bx_tl hX hp).2.1
  unfold sub'
  rw [drop_cons (gl_get hp)]
  obtain ⟨n, hn⟩ : ∃ n, tl X p = n + 1 := ⟨tl X p - 1, by omega⟩
  rw [hn]
  rfl
theorem tl_leaf {X : List Nat} (hX : BX X) {p : Nat} (hp : p < X.length) (h : ga X p = 0) : tl X p = 1 := by
  have := ko_last hX hp
  rw [h] at this
  have : p + 1 = p + tl X p := this
  omega
theorem sub_leaf {X : List Nat} (hX : BX X) {p : Nat} (hp : p < X.length) (h : ga X p = 0) : sub' X p = [gl X p] := by
  rw [sub_cons hX hp, tl_leaf hX hp h]
  rfl
theorem gl_8 {X : List Nat} (hX : BX X) {p : Nat} (hp : p < X.length) (h : gl X p < 10) : gl X p < 8 := by
  rcases gl_ok hX hp with q | q <;> omega
theorem dpF_ok {X : List Nat} (hX : BX X) {S : SS} (hS : S1 X S) : ∀ f p, p < X.length → (gl X p < 10 → gl X p + 1 < f) → 0 < f → deepF f (smO X S) (sub' X p) = some (sub' X (dpF X S f p)) ∧ (gl X (dpF X S f p) < 10 → S (gl X (dpF X S f p)) = none) ∧ dpF X S f p < X.length
  | 0, p, hp, h1, h2 => by omega
  | f + 1, p, hp, h1, h2 => by
    by_cases hn : gl X p < 10
    · have h8 := gl_8 hX hp hn
      have e1 := sub_leaf hX hp (ga_name hn)
      have e2 : dpF X S (f + 1) p = (match S (gl X p) with | some q => dpF X S f q | none => p) := by
        show (if gl X p < 10 then _ else _) = _
        rw [if_pos hn]
      have e3 : deepF (f + 1) (smO X S) (sub' X p) = (match (S (gl X p)).map (sub' X) with | some t' => deepF f (smO X S) t' | none => some [gl X p]) := by
        rw [e1]
        show (if gl X p < 10 then _ else _) = _
        rw [if_pos hn, smO_get X S h8]
        rfl
      rw [e2, e3]
      cases hq : S (gl X p) with
      | none =>
        refine ⟨?_, fun _ => hq, hp⟩
        show some [gl X p] = some (sub' X p)
        rw [e1]
      | some q =>
        obtain ⟨q1, q2, q3⟩ := hS _ _ hq
        have := h1 hn
        exact dpF_ok hX hS f q q2 (fun z => by have := q3 z; omega) (by omega)
    · have e2 : dpF X S (f + 1) p = p := by
        show (if gl X p < 10 then _ else _) = _
        rw [if_neg hn]
      rw [e2]
      refine ⟨?_, fun z => absurd z hn, hp⟩
      rw [sub_cons hX hp]
      generalize (X.drop (p + 1)).take (tl X p - 1) = a
      cases a with
      | nil =>
        show (if gl X p < 10 then _ else _) = _
        rw [if_neg hn]
      | cons y a => rfl
theorem dpF_head {X : List Nat} {S : SS} {p : Nat} (h : ¬ gl X p < 10) : ∀ f, dpF X S f p = p
  | 0 => rfl
  | f + 1 => by
    show (if gl X p < 10 then _ else _) = _
    rw [if_neg h]
theorem dpF_ext {X : List Nat} {S : SS} (hS : S1 X S) : ∀ f f' p, (gl X p < 10 → gl X p < f ∧ gl X p < f') → dpF X S f p = dpF X S f' p
  | 0, f', p, h => by
    by_cases z : gl X p < 10
    · have := h z
      omega
    · rw [dpF_head z, dpF_head z]
  | f + 1, 0, p, h => by
    by_cases z : gl X p < 10
    · have := h z
      omega
    · rw [dpF_head z, dpF_head z]
  | f + 1, f' + 1, p, h => by
    show (if gl X p < 10 then _ else _) = (if gl X p < 10 then _ else _)
    split
    · rename_i hn
      split
      · rename_i q hq
        obtain ⟨q1, q2, q3⟩ := hS _ _ hq
        have := h hn
        refine dpF_ext hS f f' q (fun z => ?_)
        have := q3 z
        omega
      · rfl
    · rfl
theorem dp_name {X : List Nat} (hX : BX X) {S : SS} (hS : S1 X S) {p q : Nat} (hp : p < X.length) (hn : gl X p < 10) (hq : S (gl X p) = some q) : dp X S p = dp X S q := by
  have h8 := gl_8 hX hp hn
  obtain ⟨q1, q2, q3⟩ := hS _ _ hq
  show (if gl X p < 10 then _ else _) = _
  rw [if_pos hn, hq]
  exact dpF_ext hS 8 9 q (fun z => by have := q3 z; omega)
theorem dp_free {X : List Nat} {S : SS} {p : Nat} (hq : gl X p < 10 → S (gl X p) = none) : dp X S p = p := by
  show (if gl X p < 10 then _ else _) = _
  split
  · rename_i h
    rw [hq h]
  · rfl
theorem dp_ok {X : List Nat} (hX : BX X) {S : SS} (hS : S1 X S) {p : Nat} (hp : p < X.length) : deepF 9 (smO X S) (sub' X p) = some (sub' X (dp X S p)) ∧ (gl X (dp X S p) < 10 → S (gl X (dp X S p)) = none) ∧ dp X S p < X.length :=
  dpF_ok hX hS 9 p hp (fun z => by have := gl_8 hX hp z; omega) (by omega)
theorem dp_U {X : List Nat} (hX : BX X) {S : SS} (hS : S1 X S) {b : Nat} {w : Nat → Nat} (hw : VW X S b w) : ∀ n p, gl X p < n → p < X.length → uP X b w (dp X S p) = uP X b w p
  | 0, p, h, hp => by omega
  | n + 1, p, h, hp => by
    by_cases hn : gl X p < 10
    · cases hq : S (gl X p) with
      | none => rw [dp_free (fun _ => hq)]
      | some q =>
        obtain ⟨q1, q2, q3⟩ := hS _ _ hq
        rw [dp_name hX hS hp hn hq]
        have e : uP X b w p = uP X b w q := by
          rw [uP_leaf hX hp (ga_name hn), ← hw.2 _ _ hq]
          unfold wl
          rw [if_pos hn]
        rw [e]
        by_cases hn2 : gl X q < 10
        · have := q3 hn2
          exact dp_U hX hS hw n q (by omega) q2
        · rw [dp_free (fun z => absurd z hn2)]
    · rw [dp_free (fun z => absurd z hn)]
theorem S1_up {X : List Nat} {S : SS} (hS : S1 X S) {x t : Nat} (hx : x < 8) (ht : t < X.length) (h : gl X t < 10 → gl X t < x) : S1 X (upS S x t) := by
  intro y q hq
  by_cases e : y = x
  · subst e
    rw [upS_self] at hq
    cases hq
    exact ⟨hx, ht, h⟩
  · rw [upS_ne _ _ e] at hq
    exact hS y q hq
theorem dp_up {X : List Nat} (hX : BX X) {S : SS} (hS : S1 X S) {x t : Nat} (hx : x < 8) (ht : t < X.length) (h : gl X t < 10 → gl X t < x) (hfx : S x = none) (hft : gl X t < 10 → S (gl X t) = none) : ∀ n p, gl X p < n → p < X.length → dp X (upS S x t) p = if gl X (dp X S p) = x then t else dp X S p
  | 0, p, hn, hp => by omega
  | n + 1, p, hn, hp => by
    have hS' := S1_up hS hx ht h
    have hdt : dp X (upS S x t) t = t := dp_free (fun z => by rw [upS_ne _ _ (by have := h z; omega)]; exact hft z)
    by_cases hg : gl X p < 10
    · cases hq : S (gl X p) with
      | none =>
        rw [dp_free (S := S) (fun _ => hq)]
        by_cases e : gl X p = x
        · rw [if_pos e, dp_name hX hS' hp hg (show upS S x t (gl X p) = some t by rw [e]; exact upS_self _ _ _), hdt]
        · rw [if_neg e, dp_free (fun _ => by rw [upS_ne _ _ e]; exact hq)]
      | some q =>
        obtain ⟨q1, q2, q3⟩ := hS _ _ hq
        have hne : gl X p ≠ x := fun z => by rw [z, hfx] at hq; cases hq
        rw [dp_name hX hS' hp hg (show upS S x t (gl X p) = some q by rw [upS_ne _ _ hne]; exact hq), dp_name hX hS hp hg hq]
        by_cases hn2 : gl X q < 10
        · have := q3 hn2
          exact dp_up hX hS hx ht h hfx hft n q (by omega) q2
        · rw [dp_free (S := S) (fun z => absurd z hn2), dp_free (S := upS S x t) (fun z => absurd z hn2), if_neg (by omega)]
    · rw [dp_free (S := S) (fun z => absurd z hg), dp_free (S := upS S x t) (fun z => absurd z hg), if_neg (by omega)]
/-- a term within a row -/
theorem sub_sub {X : List Nat} (hX : BX X) {p z : Nat} (hp : p < X.length) (h1 : p ≤ z) (h2 : z < p + tl X p) : tl (sub' X p) (z - p) = tl X z ∧ sub' (sub' X p) (z - p) = sub' X z := by
  obtain ⟨e1, e2, e3⟩ := bx_tl hX hp
  have hz : z < X.length := by omega
  obtain ⟨z1, z2, z3⟩ := bx_tl hX hz
  have h3 := tl_in hX hp h1 h2
  have d1 : (sub' X p).drop (z - p) = (X.drop z).take (tl X p - (z - p)) := by
    unfold sub'
    rw [List.drop_take, dr_dr, show p + (z - p) = z by omega]
  have d2 : ((X.drop z).take (tl X p - (z - p))).take (tl X z) = (X.drop z).take (tl X z) := by
    rw [List.take_take, Nat.min_eq_left (by omega)]
  have k1 : endL 1 ((sub' X p).drop (z - p)) = some (tl X z) := by
    have a1 := endL_app _ (((X.drop z).take (tl X p - (z - p))).drop (tl X z)) _ _ (endL_take _ _ _ z1)
    rw [← d2, List.take_append_drop] at a1
    rw [d1]
    exact a1
  refine ⟨tl_of k1, ?_⟩
  show ((sub' X p).drop (z - p)).take (tl (sub' X p) (z - p)) = _
  rw [tl_of k1, d1, d2]
  rfl
/-- X is a term and another one behind it -/
def BY (X : List Nat) (n1 : Nat) : Prop := BX X ∧ 0 < n1 ∧ tl X 0 = n1 ∧ n1 < X.length ∧ n1 + tl X n1 = X.length ∧ n1 ≤ 16 ∧ tl X n1 ≤ 16
theorem BY.tl16 {X : List Nat} {n1 : Nat} (h : BY X n1) {p : Nat} (hp : p < X.length) : tl X p ≤ 16 := by
  obtain ⟨hX, h1, h2, h3, h4, h5, h6⟩ := h
  rcases Nat.lt_or_ge p n1 with q | q
  · have := tl_in hX (show 0 < X.length by omega) (Nat.zero_le p) (by omega)
    show _ ≤ _
    omega
  · have := tl_in hX h3 q (by omega)
    show _ ≤ _
    omega
