/-! the bound on the steps, 10: the state of a run, what changes it -/
def Inv (X : List Nat) (S : SS) (dn an : PL2) (rp : Nat → Nat) : Prop :=
  S1 X S ∧ Ac X S ∧ Cl X S dn ∧ Ok2 X (dn ++ an) ∧ (∀ x y, rp x = rp y ↔ Gn (dn ++ an) x y) ∧ (∀ x, rp (rp x) = rp x) ∧ (∀ x, x < X.length → rp x < X.length)
theorem Inv.bind {X : List Nat} (hX : BX X) {S : SS} {dn an : PL2} {rp : Nat → Nat} (I : Inv X S dn an rp) {x t : Nat} (hx : x < 8) (hf : S x = none) (ht : t < X.length) (h : gl X t < 10 → gl X t < x) {C : Nat → Prop} (h1 : ∀ z q, C z → S z = some q → ∀ i, i < tl X q → gl X (q + i) < 10 → C (gl X (q + i))) (h2 : ¬ C x) (h3 : ∀ i, i < tl X t → gl X (t + i) < 10 → C (gl X (t + i))) : Inv X (upS S x t) dn an rp := by
  obtain ⟨i1, i2, i3, i4, i5, i6, i7⟩ := I
  have s1 := S1_up i1 hx ht h
  exact ⟨s1, Ac_bind i2 h1 h2 h3, i3.up hX i1 s1 (Up.bind hf), i4, i5, i6, i7⟩
theorem sub_mem {X : List Nat} (hX : BX X) {p i : Nat} (hp : p < X.length) (hi : i < tl X p) : gl X (p + i) ∈ sub' X p := by
  have := (bx_tl hX hp).2.2
  refine List.mem_of_getElem? (i := i) ?_
  unfold sub'
  rw [List.getElem?_take_of_lt hi, List.getElem?_drop]
  exact gl_get (by omega)
theorem sub_TW {X : List Nat} (hX : BX X) {p : Nat} (hp : p < X.length) : TW (sub' X p) := by
  obtain ⟨h1, h2, h3⟩ := bx_tl hX hp
  refine ⟨?_, fun x hx => hX.2.1 x (List.mem_of_mem_drop (List.mem_of_mem_take hx))⟩
  rw [sub_len hX hp]
  exact endL_take _ _ _ h1
theorem smO_TT {X : List Nat} {n1 : Nat} (hY : BY X n1) {S : SS} (hS : S1 X S) : TT (smO X S) := by
  refine ⟨by simp [smO], fun r hr => ?_⟩
  unfold smO at hr
  obtain ⟨x, hx, e⟩ := List.mem_map.mp hr
  cases hs : S x with
  | none => rw [hs] at e; cases e
  | some q =>
    rw [hs] at e
    cases e
    have hq := (hS x q hs).2.1
    exact ⟨sub_TW hY.1 hq, by rw [sub_len hY.1 hq]; exact hY.tl16 hq⟩
/-- a name that isn't within, bound -/
theorem Inv.bindW {X : List Nat} {n1 : Nat} (hY : BY X n1) {S : SS} {dn an : PL2} {rp : Nat → Nat} (I : Inv X S dn an rp) {x t : Nat} (hx : x < 8) (hf : S x = none) (ht : t < X.length) (h : 10 ≤ gl X t) (hw : isWi (smO X S) x (sub' X t) = false) : Inv X (upS S x t) dn an rp := by
  have hX := hY.1
  obtain ⟨C, c1, c2, c3⟩ := isWi_no (smO_TT hY I.1) (sub_TW hX ht) hx hw
  refine I.bind hX hx hf ht (fun z => by omega) (C := C) (fun z q hz hq i hi hg => ?_) c1 (fun i hi hg => c2 _ hg (sub_mem hX ht hi))
  obtain ⟨q1, q2, -⟩ := I.1 z q hq
  refine c3 z (sub' X q) q1 hz ?_ _ hg (sub_mem hX q2 hi)
  rw [smO_get X S q1, hq]
  rfl
theorem Inv.bindN {X : List Nat} (hX : BX X) {S : SS} {dn an : PL2} {rp : Nat → Nat} (I : Inv X S dn an rp) {x t : Nat} (hx : x < 8) (hf : S x = none) (ht : t < X.length) (h : gl X t < x) (hft : S (gl X t) = none) : Inv X (upS S x t) dn an rp := by
  have hn : gl X t < 10 := by omega
  refine I.bind hX hx hf ht (fun _ => h) (C := fun z => z = gl X t) (fun z q hz hq => ?_) (fun z => by omega) (fun i hi _ => ?_)
  · rw [hz, hft] at hq
    cases hq
  · have := tl_leaf hX ht (ga_name hn)
    have : i = 0 := by omega
    rw [this]
    rfl
/-- paths over pairs that are under way -/
theorem Gn_big {dn dn' an : PL2} (hd : ∀ q ∈ dn, q ∈ dn') {x y : Nat} (g : Gn (dn ++ an) x y) : Gn dn' x y ∨ ((∃ q ∈ an, Gn dn' x q.1 ∨ Gn dn' x q.2) ∧ (∃ q ∈ an, Gn dn' y q.1 ∨ Gn dn' y q.2)) := by
  refine g (fun x y => Gn dn' x y ∨ ((∃ q ∈ an, Gn dn' x q.1 ∨ Gn dn' x q.2) ∧ (∃ q ∈ an, Gn dn' y q.1 ∨ Gn dn' y q.2))) (fun a => Or.inl (Gn.rf _ _)) (fun x y q => ?_) (fun x y z q r => ?_) (fun q hq => ?_)
  · rcases q with h | ⟨h1, h2⟩
    · exact Or.inl h.sy
    · exact Or.inr ⟨h2, h1⟩
  · rcases q with h | ⟨⟨q, hq, h1⟩, h2⟩
    · rcases r with k | ⟨⟨q, hq, k1⟩, k2⟩
      · exact Or.inl (h.tr k)
      · exact Or.inr ⟨⟨q, hq, k1.imp (fun z => h.tr z) (fun z => h.tr z)⟩, k2⟩
    · rcases r with k | ⟨k1, k2⟩
      · obtain ⟨q', hq', h2⟩ := h2
        exact Or.inr ⟨⟨q, hq, h1⟩, ⟨q', hq', h2.imp (fun z => k.sy.tr z) (fun z => k.sy.tr z)⟩⟩
      · exact Or.inr ⟨⟨q, hq, h1⟩, k2⟩
  · rcases List.mem_append.mp hq with h | h
    · exact Or.inl (Gn.of (hd q h))
    · exact Or.inr ⟨⟨q, h, Or.inl (Gn.rf _ _)⟩, ⟨q, h, Or.inr (Gn.rf _ _)⟩⟩
/-- the pair at hand: in one class by pairs that are through, or not at all -/
theorem Gn_two {X : List Nat} (hX : BX X) {S : SS} (hS : S1 X S) {dn an : PL2} (hC : Cl X S dn) {b : Nat} {w : Nat → Nat} (hw : VW X S b w) {x y : Nat} (hx : x < X.length) (hy : y < X.length) (hM : ∀ q ∈ an, uP X b w x < uP X b w q.1 ∧ uP X b w y < uP X b w q.2) (g : Gn (dn ++ an) x y) : Gn dn x y := by
  rcases Gn_big (dn' := dn) (fun _ z => z) g with h | ⟨⟨q, hq, h⟩, ⟨r, hr, k⟩⟩
  · exact h
  · have m1 := hM q hq
    have m2 := hM r hr
    rcases h with h | h
    · have := Gn_U hX hS hC hw hx h
      omega
    · have e1 := Gn_U hX hS hC hw hx h
      rcases k with k | k
      · have := Gn_U hX hS hC hw hy k
        omega
      · have := Gn_U hX hS hC hw hy k
        omega
theorem fo_ok {X : List Nat} (hX : BX X) {S : SS} (hS : S1 X S) {dn dn' an : PL2} (hC : Cl X S dn') {b : Nat} {w : Nat → Nat} (hw : VW X S b w) {x y : Nat} (hx : x < X.length) (hy : y < X.length) (hM : ∀ q ∈ an, uP X b w x < uP X b w q.1 ∧ uP X b w y < uP X b w q.2)
    (hd : ∀ q ∈ dn, q ∈ dn') (hn : ∀ q ∈ dn', q ∈ dn ∨ (uP X b w q.1 < uP X b w x ∧ uP X b w q.2 < uP X b w y)) (h : ¬ Gn (dn ++ an) x y) : ¬ Gn (dn' ++ an) x y := by
  intro g
  have small : ∀ q ∈ dn', q ∉ dn → (uP X b w q.1 < uP X b w x ∧ uP X b w q.1 < uP X b w y) ∧ (uP X b w q.2 < uP X b w x ∧ uP X b w q.2 < uP X b w y) := by
    intro q hq hnq
    have e := Gn_U hX hS hC hw (hC q hq).1 (Gn.of hq)
    rcases hn q hq with z | z
    · exact absurd z hnq
    · omega
  have key := g (fun x1 y1 => Gn (dn ++ an) x1 y1 ∨ ((∃ z, Gn (dn ++ an) x1 z ∧ uP X b w z < uP X b w x ∧ uP X b w z < uP X b w y) ∧ (∃ z, Gn (dn ++ an) y1 z ∧ uP X b w z < uP X b w x ∧ uP X b w z < uP X b w y))) (fun a => Or.inl (Gn.rf _ _)) (fun x y q => ?_) (fun x y z q r => ?_) (fun q hq => ?_)
  · rcases key with k | ⟨⟨z, z1, z2, z3⟩, ⟨t, t1, t2, t3⟩⟩
    · exact h k
    · have bx : ∃ q ∈ an, uP X b w x = uP X b w q.2 := by
        rcases Gn_big hd z1 with k | ⟨⟨q, hq, k⟩, -⟩
        · have := Gn_U hX hS hC hw hx k
          omega
        · rcases k with k | k
          · have := Gn_U hX hS hC hw hx k
            have := hM q hq
            omega
          · exact ⟨q, hq, Gn_U hX hS hC hw hx k⟩
      have by' : ∃ q ∈ an, uP X b w y = uP X b w q.1 := by
        rcases Gn_big hd t1 with k | ⟨⟨q, hq, k⟩, -⟩
        · have := Gn_U hX hS hC hw hy k
          omega
        · rcases k with k | k
          · exact ⟨q, hq, Gn_U hX hS hC hw hy k⟩
          · have := Gn_U hX hS hC hw hy k
            have := hM q hq
            omega
      obtain ⟨q, q1, q2⟩ := bx
      obtain ⟨r, r1, r2⟩ := by'
      have := hM q q1
      have := hM r r1
      omega
  · rcases q with h | ⟨h1, h2⟩
    · exact Or.inl h.sy
    · exact Or.inr ⟨h2, h1⟩
  · rcases q with h | ⟨⟨q, hq, h1⟩, h2⟩
    · rcases r with k | ⟨⟨q, hq, k1⟩, k2⟩
      · exact Or.inl (h.tr k)
      · exact Or.inr ⟨⟨q, h.tr hq, k1⟩, k2⟩
    · rcases r with k | ⟨k1, k2⟩
      · obtain ⟨q', hq', h2⟩ := h2
        exact Or.inr ⟨⟨q, hq, h1⟩, ⟨q', k.sy.tr hq', h2⟩⟩
      · exact Or.inr ⟨⟨q, hq, h1⟩, k2⟩
  · rcases List.mem_append.mp hq with k | k
    · by_cases c : q ∈ dn
      · exact Or.inl (Gn.of (List.mem_append_left _ c))
      · have := small q k c
        exact Or.inr ⟨⟨q.1, Gn.rf _ _, this.1⟩, ⟨q.2, Gn.rf _ _, this.2⟩⟩
    · exact Or.inl (Gn.of (List.mem_append_right _ k))
/-- two classes joined -/
def un (rp : Nat → Nat) (a b : Nat) : Nat → Nat := fun x => if rp x = rp a then rp b else rp x
def Wt (X : List Nat) (rp : Nat → Nat) : Nat := sJ (fun c => if rp c = c then 2 * ga X c else 0) X.length
theorem un_ok {X : List Nat} {S : SS} {dn an : PL2} {rp : Nat → Nat} (I : Inv X S dn an rp) {a b : Nat} (ha : a < X.length) (hb : b < X.length) (hg : gl X a = gl X b) (h0 : 0 < ga X a) (hne : rp a ≠ rp b) : Inv X S dn ((a, b) :: an) (un rp a b) ∧ Wt X (un rp a b) + 2 * ga X a = Wt X rp := by
  obtain ⟨i1, i2, i3, i4, i5, i6, i7⟩ := I
  have sub : ∀ q ∈ dn ++ an, q ∈ dn ++ (a, b) :: an := fun q hq => by
    rcases List.mem_append.mp hq with z | z
    · exact List.mem_append_left _ z
    · exact List.mem_append_right _ (List.mem_cons_of_mem _ z)
  have hab : Gn (dn ++ (a, b) :: an) a b := Gn.of (q := (a, b)) (List.mem_append_right _ List.mem_cons_self)
  refine ⟨⟨i1, i2, i3, fun q hq => ?_, fun x y => ⟨fun e => ?_, fun g => ?_⟩, fun x => ?_, fun x hx => ?_⟩, ?_⟩
  · rcases List.mem_append.mp hq with z | z
    · exact i4 q (List.mem_append_left _ z)
    · rcases List.mem_cons.mp z with y | y
      · rw [y]; exact ⟨ha, hb, hg, h0⟩
      · exact i4 q (List.mem_append_right _ y)
  · unfold un at e
    by_cases cx : rp x = rp a
    · have gx := ((i5 x a).mp cx).mono sub
      by_cases cy : rp y = rp a
      · exact gx.tr (((i5 y a).mp cy).mono sub).sy
      · rw [if_pos cx, if_neg cy] at e
        exact (gx.tr hab).tr (((i5 b y).mp e).mono sub)
    · by_cases cy : rp y = rp a
      · rw [if_neg cx, if_pos cy] at e
        exact (((i5 x b).mp e).mono sub).tr (hab.sy.tr (((i5 y a).mp cy).mono sub).sy)
      · rw [if_neg cx, if_neg cy] at e
        exact ((i5 x y).mp e).mono sub
  · refine g (fun x y => un rp a b x = un rp a b y) (fun _ => rfl) (fun _ _ h => h.symm) (fun _ _ _ h k => h.trans k) (fun q hq => ?_)
    have keep : q ∈ dn ++ an → un rp a b q.1 = un rp a b q.2 := fun z => by
      have := (i5 q.1 q.2).mpr (Gn.of z)
      unfold un
      rw [this]
    rcases List.mem_append.mp hq with z | z
    · exact keep (List.mem_append_left _ z)
    · rcases List.mem_cons.mp z with y | y
      · rw [y]
        show (if rp a = rp a then rp b else rp a) = (if rp b = rp a then rp b else rp b)
        rw [if_pos rfl]
        split <;> rfl
      · exact keep (List.mem_append_right _ y)
  · show (if rp (un rp a b x) = rp a then rp b else rp (un rp a b x)) = un rp a b x
    unfold un
    by_cases cx : rp x = rp a
    · rw [if_pos cx, i6, if_neg (Ne.symm hne)]
    · rw [if_neg cx, i6, if_neg cx]
  · unfold un
    split
    · exact i7 b hb
    · exact i7 x hx
  · have gk : gl X (rp a) = gl X a := Gn_gl i4 ((i5 (rp a) a).mp (i6 a))
    have e := sJ_upd (f := fun c => if rp c = c then 2 * ga X c else 0) (g := fun c => if un rp a b c = c then 2 * ga X c else 0) (k := rp a) (i7 a ha) (fun c hc => by
      have : (un rp a b c = c) ↔ (rp c = c) := by
        unfold un
        by_cases z : rp c = rp a
        · rw [if_pos z]
          constructor
          · intro y
            rw [← y, i6] at z
            exact absurd z.symm hne
          · intro y
            rw [y] at z
            exact absurd z hc
        · rw [if_neg z]
      by_cases z : rp c = c
      · rw [if_pos z, if_pos (this.mpr z)]
      · rw [if_neg z, if_neg (fun y => z (this.mp y))])
    have k1 : un rp a b (rp a) ≠ rp a := by
      show (if rp (rp a) = rp a then rp b else rp (rp a)) ≠ rp a
      rw [if_pos (i6 a)]
      exact Ne.symm hne
    rw [if_neg k1, if_pos (i6 a), ga_eq gk] at e
    unfold Wt
    omega
theorem pop_ok {X : List Nat} {S : SS} {dn an : PL2} {rp : Nat → Nat} {a b : Nat} (I : Inv X S dn ((a, b) :: an) rp) (hk : ∀ j, j < ga X a → Ap X S dn (ko X a j) (ko X b j)) : Inv X S ((a, b) :: dn) an rp := by
  obtain ⟨i1, i2, i3, i4, i5, i6, i7⟩ := I
  obtain ⟨o1, o2, o3, o4⟩ := i4 (a, b) (List.mem_append_right _ List.mem_cons_self)
  have m1 : ∀ q ∈ dn ++ (a, b) :: an, q ∈ (a, b) :: dn ++ an := fun q hq => by
    rcases List.mem_append.mp hq with z | z
    · exact List.mem_append_left _ (List.mem_cons_of_mem _ z)
    · rcases List.mem_cons.mp z with y | y
      · rw [y]; exact List.mem_append_left _ List.mem_cons_self
      · exact List.mem_append_right _ y
  have m2 : ∀ q ∈ (a, b) :: dn ++ an, q ∈ dn ++ (a, b) :: an := fun q hq => by
    rcases List.mem_append.mp hq with z | z
    · rcases List.mem_cons.mp z with y | y
      · rw [y]; exact List.mem_append_right _ List.mem_cons_self
      · exact List.mem_append_left _ y
    · exact List.mem_append_right _ (List.mem_cons_of_mem _ z)
  refine ⟨i1, i2, fun q hq => ?_, fun q hq => i4 q (m2 q hq), fun x y => ⟨fun e => ((i5 x y).mp e).mono m1, fun g => (i5 x y).mpr (g.mono m2)⟩, i6, i7⟩
  rcases List.mem_cons.mp hq with z | z
  · rw [z]
    exact ⟨o1, o2, o3, fun j hj => (hk j hj).mono (fun q hq => List.mem_cons_of_mem _ hq)⟩
  · obtain ⟨c1, c2, c3, c4⟩ := i3 q z
    exact ⟨c1, c2, c3, fun j hj => (c4 j hj).mono (fun q hq => List.mem_cons_of_mem _ hq)⟩
/-- the class of the two terms is over all levels -/
theorem AA_le {X : List Nat} {n1 : Nat} {S : SS} {dn an : PL2} {rp : Nat → Nat} {b : Nat} {w : Nat → Nat} (H : LVH X n1 S dn an rp b w) {v : Nat} (hM : ∀ q ∈ an, v < uP X b w q.1 ∧ v < uP X b w q.2) (h0 : v < uP X b w 0) : AA X S rp b w v + 2 * ga X 0 ≤ Wt X rp + 3 * sJ (hvN X S) 8 := by
  obtain ⟨hY, hS, hC, hO, hT, hw, hb, r1, r2, r3⟩ := H
  have hX := hY.1
  have hN : 0 < X.length := by have := hY.2; omega
  have k1 : sJ (fun x => if w x ≤ v then hvN X S x else 0) 8 ≤ sJ (hvN X S) 8 := sJ_le (fun i _ => by
    split
    · exact Nat.le_refl _
    · exact Nat.zero_le _)
  have g := r1 (rp 0) 0 (r2 0)
  have hgt : ¬ uP X b w (rp 0) ≤ v := fun z => by
    have g2 := Gn_small hX hS hC hw (r3 0 hN) (fun q hq => by have := hM q hq; omega) g
    have := Gn_U hX hS hC hw (r3 0 hN) g2
    omega
  have k2 : cA' X rp b w v + 2 * ga X 0 ≤ Wt X rp := by
    refine sJ_lek (k := rp 0) (r3 0 hN) (fun c _ => ?_) ?_
    · by_cases z : rp c = c
      · rw [if_pos z]
        split
        · exact Nat.le_refl _
        · exact Nat.zero_le _
      · rw [if_neg z, if_neg (fun y => z y.1)]
        exact Nat.le_refl _
    · rw [if_neg (fun y => hgt y.2), if_pos (r2 0), ga_eq (Gn_gl hO g)]
      omega
  unfold AA
  omega
