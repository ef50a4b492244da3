/-! the bound on the steps, 4: what comes together -/
abbrev PL2 : Type := List (Nat × Nat)
/-- in one class by these pairs -/
def Gn (P : PL2) (x y : Nat) : Prop := ∀ Rl : Nat → Nat → Prop, (∀ a, Rl a a) → (∀ a b, Rl a b → Rl b a) → (∀ a b c, Rl a b → Rl b c → Rl a c) → (∀ q ∈ P, Rl q.1 q.2) → Rl x y
theorem Gn.rf (P : PL2) (x : Nat) : Gn P x x := fun _ h1 _ _ _ => h1 x
theorem Gn.sy {P : PL2} {x y : Nat} (h : Gn P x y) : Gn P y x := fun Rl h1 h2 h3 h4 => h2 _ _ (h Rl h1 h2 h3 h4)
theorem Gn.tr {P : PL2} {x y z : Nat} (h : Gn P x y) (g : Gn P y z) : Gn P x z := fun Rl h1 h2 h3 h4 => h3 _ _ _ (h Rl h1 h2 h3 h4) (g Rl h1 h2 h3 h4)
theorem Gn.of {P : PL2} {q : Nat × Nat} (h : q ∈ P) : Gn P q.1 q.2 := fun _ _ _ _ h4 => h4 q h
theorem Gn.mono {P P' : PL2} {x y : Nat} (h : Gn P x y) (hP : ∀ q ∈ P, q ∈ P') : Gn P' x y := fun Rl h1 h2 h3 h4 => h Rl h1 h2 h3 (fun q hq => h4 q (hP q hq))
def Ap (X : List Nat) (S : SS) (dn : PL2) (p q : Nat) : Prop := gl X (dp X S p) = gl X (dp X S q) ∧ (ga X (dp X S p) = 0 ∨ Gn dn (dp X S p) (dp X S q))
theorem ga_eq {X : List Nat} {p q : Nat} (h : gl X p = gl X q) : ga X p = ga X q := by unfold ga; rw [h]
theorem Ap.rf (X : List Nat) (S : SS) (dn : PL2) (p : Nat) : Ap X S dn p p := ⟨rfl, Or.inr (Gn.rf _ _)⟩
theorem Ap.sy {X : List Nat} {S : SS} {dn : PL2} {p q : Nat} (h : Ap X S dn p q) : Ap X S dn q p := ⟨h.1.symm, h.2.elim (fun z => Or.inl (by rw [← ga_eq h.1]; exact z)) (fun z => Or.inr z.sy)⟩
theorem Ap.tr {X : List Nat} {S : SS} {dn : PL2} {p q r : Nat} (h : Ap X S dn p q) (g : Ap X S dn q r) : Ap X S dn p r := by
  refine ⟨h.1.trans g.1, ?_⟩
  rcases h.2 with z | z
  · exact Or.inl z
  · rcases g.2 with y | y
    · exact Or.inl (by rw [ga_eq h.1]; exact y)
    · exact Or.inr (z.tr y)
/-- pairs that are through: their parts are alike -/
def Cl (X : List Nat) (S : SS) (dn : PL2) : Prop := ∀ q ∈ dn, q.1 < X.length ∧ q.2 < X.length ∧ gl X q.1 = gl X q.2 ∧ ∀ j, j < ga X q.1 → Ap X S dn (ko X q.1 j) (ko X q.2 j)
theorem Cl.gn {X : List Nat} {S : SS} {dn : PL2} (h : Cl X S dn) {x y : Nat} (g : Gn dn x y) : (x < X.length ↔ y < X.length) ∧ gl X x = gl X y ∧ ∀ j, j < ga X x → Ap X S dn (ko X x j) (ko X y j) := by
  refine g (fun x y => (x < X.length ↔ y < X.length) ∧ gl X x = gl X y ∧ ∀ j, j < ga X x → Ap X S dn (ko X x j) (ko X y j)) (fun a => ⟨Iff.rfl, rfl, fun j _ => Ap.rf _ _ _ _⟩) (fun a b q => ⟨q.1.symm, q.2.1.symm, fun j hj => (q.2.2 j (by rw [ga_eq q.2.1]; exact hj)).sy⟩) (fun a b c q r => ⟨q.1.trans r.1, q.2.1.trans r.2.1, fun j hj => (q.2.2 j hj).tr (r.2.2 j (by rw [← ga_eq q.2.1]; exact hj))⟩) (fun q hq => ?_)
  obtain ⟨h1, h2, h3, h4⟩ := h q hq
  exact ⟨⟨fun _ => h2, fun _ => h1⟩, h3, h4⟩
theorem Ap_U {X : List Nat} (hX : BX X) {S : SS} (hS : S1 X S) {dn : PL2} (hC : Cl X S dn) {b : Nat} {w : Nat → Nat} (hw : VW X S b w) : ∀ n p q, uP X b w p ≤ n → p < X.length → q < X.length → Ap X S dn p q → uP X b w p = uP X b w q := by
  intro n
  induction n with
  | zero =>
    intro p q hn hp hq h
    obtain ⟨d1, d2, d3⟩ := dp_ok hX hS hp
    obtain ⟨e1, e2, e3⟩ := dp_ok hX hS hq
    rw [← dp_U hX hS hw _ p (Nat.lt_succ_self _) hp, ← dp_U hX hS hw _ q (Nat.lt_succ_self _) hq]
    rw [← dp_U hX hS hw _ p (Nat.lt_succ_self _) hp] at hn
    rcases Nat.eq_zero_or_pos (ga X (dp X S p)) with z | z
    · rw [uP_leaf hX d3 z, uP_leaf hX e3 (by rw [← ga_eq h.1]; exact z), h.1]
    · rw [uP_head hX d3 z] at hn
      omega
  | succ n ih =>
    intro p q hn hp hq h
    obtain ⟨d1, d2, d3⟩ := dp_ok hX hS hp
    obtain ⟨e1, e2, e3⟩ := dp_ok hX hS hq
    rw [← dp_U hX hS hw _ p (Nat.lt_succ_self _) hp, ← dp_U hX hS hw _ q (Nat.lt_succ_self _) hq]
    rw [← dp_U hX hS hw _ p (Nat.lt_succ_self _) hp] at hn
    rcases Nat.eq_zero_or_pos (ga X (dp X S p)) with z | z
    · rw [uP_leaf hX d3 z, uP_leaf hX e3 (by rw [← ga_eq h.1]; exact z), h.1]
    · rcases h.2 with y | y
      · omega
      · have g := hC.gn y
        rw [uP_head hX d3 z, uP_head hX e3 (by rw [← ga_eq h.1]; exact z), ← ga_eq h.1]
        congr 1
        refine sJ_congr (fun j hj => ?_)
        have := uP_kid hX (b := b) (w := w) d3 hj
        exact ih _ _ (by omega) (ko_mono hX d3 hj).2.2.2.2 (ko_mono hX e3 (by rw [← ga_eq h.1]; exact hj)).2.2.2.2 (g.2.2 j hj)
theorem Gn_U {X : List Nat} (hX : BX X) {S : SS} (hS : S1 X S) {dn : PL2} (hC : Cl X S dn) {b : Nat} {w : Nat → Nat} (hw : VW X S b w) {x y : Nat} (hx : x < X.length) (g : Gn dn x y) : uP X b w x = uP X b w y := by
  obtain ⟨h1, h2, h3⟩ := hC.gn g
  have hy := h1.mp hx
  rw [uP_kids hX hx, uP_kids hX hy, h2, ga_eq h2]
  congr 1
  refine sJ_congr (fun j hj => ?_)
  have hj' : j < ga X x := by rw [ga_eq h2]; exact hj
  exact Ap_U hX hS hC hw _ _ _ (Nat.le_refl _) (ko_mono hX hx hj').2.2.2.2 (ko_mono hX hy hj).2.2.2.2 (h3 j hj')
/-- what is alike stays so -/
theorem Ap.up {X : List Nat} (hX : BX X) {S : SS} (hS : S1 X S) {x t : Nat} (hx : x < 8) (ht : t < X.length) (h : gl X t < 10 → gl X t < x) (hfx : S x = none) (hft : gl X t < 10 → S (gl X t) = none) {dn : PL2} {p q : Nat} (hp : p < X.length) (hq : q < X.length) (a : Ap X S dn p q) : Ap X (upS S x t) dn p q := by
  unfold Ap
  rw [dp_up hX hS hx ht h hfx hft _ p (Nat.lt_succ_self _) hp, dp_up hX hS hx ht h hfx hft _ q (Nat.lt_succ_self _) hq]
  obtain ⟨a1, a2⟩ := a
  by_cases e : gl X (dp X S p) = x
  · rw [if_pos e, if_pos (by rw [← a1]; exact e)]
    exact ⟨rfl, Or.inr (Gn.rf _ _)⟩
  · rw [if_neg e, if_neg (by rw [← a1]; exact e)]
    exact ⟨a1, a2⟩
theorem Ap.mono {X : List Nat} {S : SS} {dn dn' : PL2} (hd : ∀ q ∈ dn, q ∈ dn') {p q : Nat} (a : Ap X S dn p q) : Ap X S dn' p q := ⟨a.1, a.2.imp id (fun g => g.mono hd)⟩
/-- so many unlike numbers are below n -/
theorem nodup_le : ∀ (n : Nat) (l : List Nat), l.Nodup → (∀ x ∈ l, x < n) → l.length ≤ n
  | 0, [], _, _ => Nat.le_refl _
  | 0, x :: l, _, h => absurd (h x List.mem_cons_self) (Nat.not_lt_zero _)
  | n + 1, l, hd, h => by
    by_cases z : n ∈ l
    · have h1 := nodup_le n (l.erase n) (hd.erase n) (fun x hx => by
        have := (List.Nodup.mem_erase_iff hd).mp hx
        have := h x this.2
        omega)
      rw [List.length_erase_of_mem z] at h1
      omega
    · have := nodup_le n l hd (fun x hx => by
        have := h x hx
        have : x ≠ n := fun e => z (e ▸ hx)
        omega)
      omega
/-! a pair that is alike already: nothing changes, and it takes as many steps as its size -/
theorem goF_0 (f : Nat) (one other : List Nat) (sm : SM) (m : Nat) {x y : Nat} {a b : List Nat} (h1 : deepF 9 sm one = some (x :: a)) (h2 : deepF 9 sm other = some (y :: b)) : goF (f + 1) one other sm m 0 =
      if x < 10 then (if y < 10 then some (if x = y then sm else sm.set (max x y) (some (if x < y then x :: a else y :: b)), m + 1, 0, 0, 0) else some (bindF sm (m + 1) 0 x (y :: b)))
      else if y < 10 then some (bindF sm (m + 1) 0 y (x :: a))
      else if x = y then goOnF (goF f) (pF x) (x :: a) (y :: b) 1 1 sm (m + 1) 0 else some (sm, m + 1, 1, 0, 0) := by
  show (if 0 < 0 then _ else _) = _
  rw [if_neg (Nat.lt_irrefl 0), h1, h2]
theorem goF_skip (f : Nat) (one other : List Nat) (sm : SM) (m : Nat) {w : Nat} (hw : 0 < w) : goF (f + 1) one other sm m w = some (sm, m, w, 0, 0) := by
  show (if 0 < w then _ else _) = _
  rw [if_pos hw]
def RWk (X : List Nat) (S : SS) (p : Nat) (f : Nat) (q : Nat) (m : Nat) : Prop := ∃ c1 c0 C n, goF f (sub' X p) (sub' X q) (smO X S) m 0 = some (smO X S, m + c1, 0, C, n) ∧ C + 2 = 2 * c1 ∧ n ≤ 30 * c0 ∧ (∀ w, VW X S 1 w → c1 ≤ uP X 1 w p) ∧ (∀ w, VW X S 0 w → c0 ≤ uP X 0 w p)
set_option maxHeartbeats 4000000 in
theorem rwalk {X : List Nat} {n1 : Nat} (hY : BY X n1) {S : SS} (hS : S1 X S) {dn : PL2} (hC : Cl X S dn) {wz : Nat → Nat} (hz : VW X S 1 wz) : ∀ (f p q m : Nat) (ch : List Nat), p < X.length → q < X.length → Ap X S dn p q → ch.Nodup → (∀ c ∈ ch, c < X.length ∧ uP X 1 wz p < uP X 1 wz c) → 34 ≤ f + ch.length → RWk X S p f q m := by
  have hX := hY.1
  intro f
  induction f with
  | zero =>
    intro p q m ch hp hq hA hd hch hf
    have := nodup_le X.length ch hd (fun c hc => (hch c hc).1)
    have := hX.2.2
    omega
  | succ f ih =>
    intro p q m ch hp hq hA hd hch hf
    obtain ⟨d1, d2, d3⟩ := dp_ok hX hS hp
    obtain ⟨e1, e2, e3⟩ := dp_ok hX hS hq
    have up : ∀ b w, VW X S b w → uP X b w (dp X S p) = uP X b w p := fun b w hw => dp_U hX hS hw _ p (Nat.lt_succ_self _) hp
    obtain ⟨hA1, hA2⟩ := hA
    have g0 := goF_0 f (sub' X p) (sub' X q) (smO X S) m (d1.trans (congrArg some (sub_cons hX d3))) (e1.trans (congrArg some (sub_cons hX e3)))
    rw [← sub_cons hX d3, ← sub_cons hX e3] at g0
    obtain ⟨p', hp'⟩ : ∃ p', p' = dp X S p := ⟨_, rfl⟩
    obtain ⟨q', hq'⟩ : ∃ q', q' = dp X S q := ⟨_, rfl⟩
    rw [← hp'] at d2 d3 up hA1 hA2 g0
    rw [← hq'] at e2 e3 hA1 hA2 g0
    have wl1 : ∀ w, VW X S 1 w → ∀ x, 1 ≤ wl 1 w x := by
      intro w hw x
      unfold wl
      split
      · exact hw.1 x
      · split <;> exact Nat.le_refl _
    rw [← hA1] at g0
    by_cases hn : gl X p' < 10
    · rw [if_pos hn, if_pos hn, if_pos rfl] at g0
      refine ⟨1, 0, 0, 0, g0, rfl, Nat.le_refl _, fun w hw => ?_, fun w hw => Nat.zero_le _⟩
      rw [← up 1 w hw, uP_leaf hX d3 (ga_name hn)]
      exact wl1 w hw _
    · rw [if_neg hn, if_neg hn, if_pos rfl] at g0
      have hga : ga X q' = ga X p' := (ga_eq hA1).symm
      have loop : ∀ (k j m1 : Nat), j + k = ga X p' → ∃ c1 c0 C n, goOnF (goF f) k (sub' X p') (sub' X q') (ko X p' j - p') (ko X q' j - q') (smO X S) m1 0 = some (smO X S, m1 + c1, 0, C, n) ∧ C = 2 * c1 ∧ n + ko X p' j + ko X q' j ≤ (p' + tl X p') + (q' + tl X q') + 30 * c0 ∧
          (∀ w, VW X S 1 w → c1 + sJ (fun j => uP X 1 w (ko X p' j)) j ≤ sJ (fun j => uP X 1 w (ko X p' j)) (ga X p')) ∧ (∀ w, VW X S 0 w → c0 + sJ (fun j => uP X 0 w (ko X p' j)) j ≤ sJ (fun j => uP X 0 w (ko X p' j)) (ga X p')) := by
        intro k
        induction k with
        | zero =>
          intro j m1 hj
          have hj' : j = ga X p' := by omega
          have l1 := ko_last hX d3
          have l2 := ko_last hX e3
          rw [hga] at l2
          subst hj'
          refine ⟨0, 0, 0, 0, rfl, rfl, by omega, fun w _ => by omega, fun w _ => by omega⟩
        | succ k ihk =>
          intro j m1 hj
          have j1 : j < ga X p' := by omega
          have j2 : j < ga X q' := by omega
          obtain ⟨a1, a2, a3, a4, a5⟩ := ko_mono hX d3 j1
          obtain ⟨b1, b2, b3, b4, b5⟩ := ko_mono hX e3 j2
          obtain ⟨s1, s2⟩ := sub_sub hX d3 (show p' ≤ ko X p' j by omega) a2
          obtain ⟨t1, t2⟩ := sub_sub hX e3 (show q' ≤ ko X q' j by omega) b2
          have hAk : Ap X S dn (ko X p' j) (ko X q' j) := by
            rcases hA2 with z | z
            · omega
            · exact (hC.gn z).2.2 j j1
          have uz := up 1 wz hz
          have hk := uP_kid hX (b := 1) (w := wz) d3 j1
          obtain ⟨c1, c0, C, n, r1, r2, r3, r4, r5⟩ := ih (ko X p' j) (ko X q' j) m1 (p' :: ch) a5 b5 hAk (List.nodup_cons.mpr ⟨fun z => by have := (hch _ z).2; omega, hd⟩) (fun c hc => by
            rcases List.mem_cons.mp hc with z | z
            · rw [z]; exact ⟨d3, hk⟩
            · obtain ⟨z1, z2⟩ := hch c z
              exact ⟨z1, by omega⟩) (by rw [List.length_cons]; omega)
          obtain ⟨x1, x0, Y, y, u1, u2, u3, u4, u5⟩ := ihk (j + 1) (m1 + c1) (by omega)
          have k1 : ko X p' (j + 1) = ko X p' j + tl X (ko X p' j) := rfl
          have k2 : ko X q' (j + 1) = ko X q' j + tl X (ko X q' j) := rfl
          refine ⟨c1 + x1, c0 + x0, 2 + C + Y, tl X (ko X p' j) + tl X (ko X q' j) + n + y, ?_, by omega, by omega, fun w hw => ?_, fun w hw => ?_⟩
          · show (match goF f (sub' (sub' X p') (ko X p' j - p')) (sub' (sub' X q') (ko X q' j - q')) (smO X S) m1 0 with
              | none => none
              | some (sm1, m1, w1, c1, n1) => match goOnF (goF f) k (sub' X p') (sub' X q') (ko X p' j - p' + tl (sub' X p') (ko X p' j - p')) (ko X q' j - q' + tl (sub' X q') (ko X q' j - q')) sm1 m1 w1 with
                | none => none
                | some (sm2, m2, w2, c2, n2) => some (sm2, m2, w2, 2 + c1 + c2, tl (sub' X p') (ko X p' j - p') + tl (sub' X q') (ko X q' j - q') + n1 + n2)) = _
            rw [s2, t2, s1, t1, r1]
            dsimp only
            rw [show ko X p' j - p' + tl X (ko X p' j) = ko X p' (j + 1) - p' by omega, show ko X q' j - q' + tl X (ko X q' j) = ko X q' (j + 1) - q' by omega, u1]
            dsimp only
            rw [Nat.add_assoc]
          · have := u4 w hw
            have := r4 w hw
            have e : sJ (fun j => uP X 1 w (ko X p' j)) (j + 1) = sJ (fun j => uP X 1 w (ko X p' j)) j + uP X 1 w (ko X p' j) := rfl
            omega
          · have := u5 w hw
            have := r5 w hw
            have e : sJ (fun j => uP X 0 w (ko X p' j)) (j + 1) = sJ (fun j => uP X 0 w (ko X p' j)) j + uP X 0 w (ko X p' j) := rfl
            omega
      obtain ⟨c1, c0, C, n, r1, r2, r3, r4, r5⟩ := loop (ga X p') 0 (m + 1) (by omega)
      have k1 : ko X p' 0 = p' + 1 := rfl
      have k2 : ko X q' 0 = q' + 1 := rfl
      rw [k1, k2, show p' + 1 - p' = 1 by omega, show q' + 1 - q' = 1 by omega] at r1
      have g1 := g0.trans r1
      have z0 : ∀ b w, sJ (fun j => uP X b w (ko X p' j)) 0 = 0 := fun _ _ => rfl
      have t1 := hY.tl16 d3
      have t2 := hY.tl16 e3
      have hc1 : ∀ w, VW X S 1 w → 1 + c1 ≤ uP X 1 w p := fun w hw => by
        rw [← up 1 w hw, uP_kids hX d3]
        have := r4 w hw
        rw [z0] at this
        have := wl1 w hw (gl X p')
        omega
      rcases Nat.eq_zero_or_pos (ga X p') with z | z
      · have l1 := tl_leaf hX d3 z
        have l2 := tl_leaf hX e3 (by rw [hga]; exact z)
        refine ⟨1 + c1, c0, C, n, by rw [g1, Nat.add_assoc], by omega, by omega, hc1, fun w hw => ?_⟩
        rw [← up 0 w hw, uP_kids hX d3]
        have := r5 w hw
        rw [z0] at this
        omega
      · refine ⟨1 + c1, 1 + c0, C, n, by rw [g1, Nat.add_assoc], by omega, by omega, hc1, fun w hw => ?_⟩
        rw [← up 0 w hw, uP_head hX d3 z]
        have := r5 w hw
        rw [z0] at this
        omega
