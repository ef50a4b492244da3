/-! the bound on the steps, 11: what is known of a run, step by step -/
def nbS (S : SS) : Nat := sJ (nbN S) 8
theorem nbS_up {S : SS} {x t : Nat} (hx : x < 8) (h : S x = none) : nbS (upS S x t) = nbS S + 1 := by
  have e := sJ_upd (f := nbN (upS S x t)) (g := nbN S) (k := x) (n := 8) hx (fun i hi => by unfold nbN; rw [upS_ne _ _ hi])
  have e1 : nbN (upS S x t) x = 1 := by unfold nbN; rw [upS_self]
  have e2 : nbN S x = 0 := by unfold nbN; rw [h]
  unfold nbS
  omega
/-- a term that was walked through though it was alike already -/
def Rec (X : List Nat) (S : SS) (t : Nat) : Prop := t < X.length ∧ 0 < ga X t ∧ (∃ x q, S x = some q ∧ ∀ b w, VW X S b w → w x = uP X b w t) ∧ ∀ b w, VW X S b w → uP X b w t < uP X b w 0
theorem Rec.up {X : List Nat} {S S' : SS} (hU : Up S S') {t : Nat} (h : Rec X S t) : Rec X S' t := by
  obtain ⟨h1, h2, ⟨x, q, h3, h4⟩, h5⟩ := h
  exact ⟨h1, h2, ⟨x, q, hU x q h3, fun b w hw => h4 b w (VW_up hU hw)⟩, fun b w hw => h5 b w (VW_up hU hw)⟩
def Pot (X : List Nat) (S : SS) (rp : Nat → Nat) (K R P : Nat) : Prop := Wt X rp + 3 * nbS S + 3 * R + 3 * P ≤ 60 + ga X 0 ∧ 2 * K + 2 * P + Wt X rp ≤ 62
def Cst (X : List Nat) (S : SS) (K R c1 c0 : Nat) (rs : List Nat) : Prop := c1 ≤ K + G1 R ∧ c0 ≤ K + G0 R ∧ rs.length = R ∧ (∀ t ∈ rs, Rec X S t) ∧ (∀ w, VW X S 1 w → c1 ≤ K + (rs.map (uP X 1 w)).sum) ∧ (∀ w, VW X S 0 w → c0 ≤ K + (rs.map (uP X 0 w)).sum)
def nmP (X : List Nat) (S : SS) (q : Nat × Nat) : Prop := ∃ x p, S x = some p ∧ (dp X S p = q.1 ∨ dp X S p = q.2)
def Ty2 (X : List Nat) (n1 : Nat) (S : SS) (dn P : PL2) (top : Nat × Nat) (j : Nat) : Prop := ∀ q ∈ dn, nmP X S q ∨ q = (0, n1) ∨ (∃ y ∈ P, ∃ i, i < ga X y.1 ∧ q = (ko X y.1 i, ko X y.2 i)) ∨ ∃ i, i < j ∧ q = (ko X top.1 i, ko X top.2 i)
def Ins (X : List Nat) (n1 : Nat) (S : SS) (dn : PL2) (top : Nat × Nat) (an : PL2) (rp : Nat → Nat) (j P K R c1 c0 : Nat) (rs : List Nat) : Prop :=
  Inv X S dn (top :: an) rp ∧ Ty2 X n1 S dn (dn ++ an) top j ∧ ¬ Gn (dn ++ an) top.1 top.2 ∧ (0, n1) ∈ top :: an ∧ ((top :: an).map Prod.fst).Nodup ∧ (∀ b w, VW X S b w → ∀ y ∈ an, uP X b w top.1 < uP X b w y.1 ∧ uP X b w top.2 < uP X b w y.2) ∧ Pot X S rp K R P ∧ Cst X S K R c1 c0 rs
def New (X : List Nat) (S : SS) (dn dn' : PL2) (p q : Nat) : Prop := ∀ z ∈ dn', z ∈ dn ∨ ((∀ b w, VW X S b w → uP X b w z.1 ≤ uP X b w p ∧ uP X b w z.2 ≤ uP X b w q) ∧ (nmP X S z ∨ (∃ y ∈ dn', ∃ i, i < ga X y.1 ∧ z = (ko X y.1 i, ko X y.2 i)) ∨ z = (p, q)))
def NewL (X : List Nat) (S : SS) (dn dn' : PL2) (a b : Nat) : Prop := ∀ z ∈ dn', z ∈ dn ∨ ((∀ c w, VW X S c w → uP X c w z.1 < uP X c w a ∧ uP X c w z.2 < uP X c w b) ∧ (nmP X S z ∨ (∃ y ∈ dn', ∃ i, i < ga X y.1 ∧ z = (ko X y.1 i, ko X y.2 i)) ∨ ∃ i, i < ga X a ∧ z = (ko X a i, ko X b i)))
theorem nmP.up {X : List Nat} (hX : BX X) {S S' : SS} (hS : S1 X S) (hS' : S1 X S') (hU : Up S S') {q : Nat × Nat} (h1 : 0 < ga X q.1) (h2 : gl X q.1 = gl X q.2) (h : nmP X S q) : nmP X S' q := by
  obtain ⟨x, p, e, f⟩ := h
  have hp := (hS x p e).2.1
  have g10 : 10 ≤ gl X (dp X S p) := by
    rcases f with f | f
    · rw [f]; exact (ga_pos h1).1
    · rw [f, ← h2]; exact (ga_pos h1).1
  exact ⟨x, p, hU x p e, by rw [dp_head hX hS hS' hU hp g10]; exact f⟩
theorem Ty2.new {X : List Nat} (hX : BX X) {n1 : Nat} {S S' : SS} (hS : S1 X S) (hS' : S1 X S') (hU : Up S S') {dn dn' an : PL2} {top : Nat × Nat} {j : Nat} (hO : Ok2 X dn) (hd : ∀ q ∈ dn, q ∈ dn') (hN : New X S' dn dn' (ko X top.1 j) (ko X top.2 j)) (T : Ty2 X n1 S dn (dn ++ an) top j) : Ty2 X n1 S' dn' (dn' ++ an) top (j + 1) := by
  intro q hq
  rcases hN q hq with z | ⟨-, z | ⟨y, y1, i, y2, y3⟩ | z⟩
  · obtain ⟨o1, o2, o3, o4⟩ := hO q z
    rcases T q z with t | t | ⟨y, y1, i, y2, y3⟩ | ⟨i, i1, i2⟩
    · exact Or.inl (t.up hX hS hS' hU o4 o3)
    · exact Or.inr (Or.inl t)
    · refine Or.inr (Or.inr (Or.inl ⟨y, ?_, i, y2, y3⟩))
      rcases List.mem_append.mp y1 with t | t
      · exact List.mem_append_left _ (hd y t)
      · exact List.mem_append_right _ t
    · exact Or.inr (Or.inr (Or.inr ⟨i, by omega, i2⟩))
  · exact Or.inl z
  · exact Or.inr (Or.inr (Or.inl ⟨y, List.mem_append_left _ y1, i, y2, y3⟩))
  · exact Or.inr (Or.inr (Or.inr ⟨j, by omega, z⟩))
section INS
variable {X : List Nat} {n1 : Nat} {S : SS} {dn an : PL2} {top : Nat × Nat} {rp : Nat → Nat} {j P K R c1 c0 : Nat} {rs : List Nat}
theorem Ins.hd (I : Ins X n1 S dn top an rp j P K R c1 c0 rs) : top.1 < X.length ∧ top.2 < X.length ∧ gl X top.1 = gl X top.2 ∧ 0 < ga X top.1 := I.1.2.2.2.1 top (List.mem_append_right _ List.mem_cons_self)
theorem Ins.ok2 (I : Ins X n1 S dn top an rp j P K R c1 c0 rs) : Ok2 X dn := fun q hq => I.1.2.2.2.1 q (List.mem_append_left _ hq)
/-- the pair at hand -/
theorem Ins.kid (hY : BY X n1) (I : Ins X n1 S dn top an rp j P K R c1 c0 rs) (hj : j < ga X top.1) : ko X top.1 j < X.length ∧ ko X top.2 j < X.length ∧ ∀ b w, VW X S b w → ∀ y ∈ top :: an, uP X b w (ko X top.1 j) < uP X b w y.1 ∧ uP X b w (ko X top.2 j) < uP X b w y.2 := by
  obtain ⟨t1, t2, t3, t4⟩ := I.hd
  have hX := hY.1
  have hj2 : j < ga X top.2 := by rw [← ga_eq t3]; exact hj
  refine ⟨(ko_mono hX t1 hj).2.2.2.2, (ko_mono hX t2 hj2).2.2.2.2, fun b w hw y hy => ?_⟩
  have h1 := uP_kid hX (b := b) (w := w) t1 hj
  have h2 := uP_kid hX (b := b) (w := w) t2 hj2
  rcases List.mem_cons.mp hy with z | z
  · rw [z]; exact ⟨h1, h2⟩
  · have := I.2.2.2.2.2.1 b w hw y z
    omega
theorem Ins.w (hY : BY X n1) (I : Ins X n1 S dn top an rp j P K R c1 c0 rs) {b : Nat} (hb : b ≤ 1) : ∃ w, VW X S b w ∧ ∀ x, S x = none → w x = b := VW_ex hY.1 I.1.2.1 (fun x q h => (I.1.1 x q h).2.1) (f := fun _ => b) hb (fun _ => Nat.le_refl _)
theorem Ins.root (I : Ins X n1 S dn top an rp j P K R c1 c0 rs) : 0 < ga X 0 := (I.1.2.2.2.1 (0, n1) (List.mem_append_right _ I.2.2.2.1)).2.2.2
theorem st1_ok (hY : BY X n1) (I : Ins X n1 S dn top an rp j (P + 1) K R c1 c0 rs) {S' : SS} (hU : Up S S') (hI : Inv X S' dn (top :: an) rp) (hn : nbS S' ≤ nbS S + 1) : Ins X n1 S' dn top an rp (j + 1) P (K + 1) R (c1 + 1) c0 rs := by
  have hO := I.ok2
  obtain ⟨i1, i2, i3, i4, i5, i6, ⟨p1, p2⟩, ⟨k1, k2, k3, k4, k5, k6⟩⟩ := I
  refine ⟨hI, i2.new hY.1 i1.1 hI.1 hU hO (fun _ h => h) (fun z hz => Or.inl hz), i3, i4, i5, fun b w hw => i6 b w (VW_up hU hw), ⟨by omega, by omega⟩, by omega, by omega, k3, fun t ht => (k4 t ht).up hU, fun w hw => ?_, fun w hw => ?_⟩
  · have := k5 w (VW_up hU hw)
    omega
  · have := k6 w (VW_up hU hw)
    omega
def Fl (P c1 c0 C n : Nat) : Prop := ∃ W K R d1 d0, W + 3 * R + 3 * P ≤ 63 ∧ 2 * K + 2 * P + W ≤ 62 ∧ d1 ≤ K + G1 R ∧ d0 ≤ K + G0 R ∧ C + 2 + 2 * c1 ≤ 2 * d1 ∧ n + 30 * c0 ≤ 30 * d0
theorem fl_ok (hY : BY X n1) (I : Ins X n1 S dn top an rp j (P + 1) K R c1 c0 rs) : Fl P c1 c0 0 0 := by
  have hg := ga_le hY.1 (show 0 < X.length by have := hY.2; omega)
  obtain ⟨i1, i2, i3, i4, i5, i6, ⟨p1, p2⟩, ⟨k1, k2, k3, k4, k5, k6⟩⟩ := I
  exact ⟨Wt X rp, K + 1, R, c1 + 1, c0, by omega, by omega, by omega, by omega, by omega, by omega⟩
/-- a pair in one class: nothing changes -/
theorem rw_ok (hY : BY X n1) (I : Ins X n1 S dn top an rp j (P + 1) K R c1 c0 rs) (hj : j < ga X top.1) {f m p1 q1 : Nat} (hp1 : p1 = dp X S (ko X top.1 j)) (hq1 : q1 = dp X S (ko X top.2 j)) (hg : gl X p1 = gl X q1) (h0 : 0 < ga X p1) (hrp : rp p1 = rp q1) (hf : 34 ≤ f + (top :: an).length) :
    ∃ m' C n d1 d0, goF f (sub' X (ko X top.1 j)) (sub' X (ko X top.2 j)) (smO X S) m 0 = some (smO X S, m', 0, C, n) ∧ m' + c1 = m + d1 ∧ Ins X n1 S dn top an rp (j + 1) P K (R + 1) d1 d0 (p1 :: rs) ∧ Ap X S dn (ko X top.1 j) (ko X top.2 j) ∧ C + 2 + 2 * c1 = 2 * d1 ∧ n + 30 * c0 ≤ 30 * d0 := by
  have hX := hY.1
  obtain ⟨t1, t2, t3, t4⟩ := I.hd
  obtain ⟨kp, kq, kU⟩ := I.kid hY hj
  have hga0 := I.root
  obtain ⟨w1, hw1, hb1⟩ := I.w hY (b := 1) (by decide)
  obtain ⟨w0, hw0, hb0⟩ := I.w hY (b := 0) (by decide)
  obtain ⟨⟨a1, a2, a3, a4, a5, a6, a7⟩, i2, i3, i4, i5, i6, ⟨po1, po2⟩, ⟨k1, k2, k3, k4, k5, k6⟩⟩ := I
  have Up1 : ∀ b w, VW X S b w → uP X b w p1 = uP X b w (ko X top.1 j) := fun b w hw => by rw [hp1]; exact dp_U hX a1 hw _ _ (Nat.lt_succ_self _) kp
  have Uq1 : ∀ b w, VW X S b w → uP X b w q1 = uP X b w (ko X top.2 j) := fun b w hw => by rw [hq1]; exact dp_U hX a1 hw _ _ (Nat.lt_succ_self _) kq
  have p1N : p1 < X.length := by rw [hp1]; exact (dp_ok hX a1 kp).2.2
  have q1N : q1 < X.length := by rw [hq1]; exact (dp_ok hX a1 kq).2.2
  have g : Gn dn p1 q1 := Gn_two hX a1 a3 hw1 p1N q1N (fun q hq => by rw [Up1 1 w1 hw1, Uq1 1 w1 hw1]; exact kU 1 w1 hw1 q hq) ((a5 p1 q1).mp hrp)
  have hAp : Ap X S dn (ko X top.1 j) (ko X top.2 j) := by
    refine ⟨?_, Or.inr ?_⟩
    · rw [← hp1, ← hq1]; exact hg
    · rw [← hp1, ← hq1]; exact g
  have Ue : ∀ b w, VW X S b w → uP X b w p1 = uP X b w q1 := fun b w hw => Gn_U hX a1 a3 hw p1N g
  have hM : ∀ b w, VW X S b w → ∀ y ∈ top :: an, uP X b w p1 < uP X b w y.1 ∧ uP X b w p1 < uP X b w y.2 := fun b w hw y hy => by
    have := kU b w hw y hy
    have := Up1 b w hw
    have := Uq1 b w hw
    have := Ue b w hw
    omega
  have hM0 : ∀ b w, VW X S b w → uP X b w p1 < uP X b w 0 := fun b w hw => (hM b w hw (0, n1) i4).1
  -- a name stands for it
  have hnm : ∃ x s, S x = some s ∧ Gn dn (dp X S s) p1 := by
    refine Classical.byContradiction (fun hno => ?_)
    have dir : ∀ z r, z < X.length → r = dp X S z → Gn dn r p1 → 10 ≤ gl X r → r = z := by
      intro z r hz hr hgr h10
      by_cases hn : gl X z < 10
      · cases hs : S (gl X z) with
        | none => rw [hr, dp_free (fun _ => hs)]
        | some s =>
          exact absurd ⟨gl X z, s, hs, by rw [← dp_name hX a1 hz hn hs, ← hr]; exact hgr⟩ hno
      · rw [hr, dp_free (fun h => absurd h hn)]
    have e1 := dir _ p1 kp hp1 (Gn.rf _ _) (ga_pos h0).1
    have e2 := dir _ q1 kq hq1 g.sy (by rw [← hg]; exact (ga_pos h0).1)
    have key := g (fun x y => x = y ∨ (Gn dn x p1 ∧ Gn dn y p1 ∧ ∃ a a' i, Kd X a i x ∧ Kd X a' i y ∧ (i ≠ j ∨ Gn (dn ++ an) a a')) ∨ (¬ Gn dn x p1 ∧ ¬ Gn dn y p1)) (fun a => Or.inl rfl) (fun x y q => ?_) (fun x y z q r => ?_) (fun q hq => ?_)
    · rcases key with k | ⟨_, _, a, a', i, k1, k2, k3⟩ | ⟨k, _⟩
      · have e3 : top.1 = top.2 := (par_un hX t1 t2 hj (by rw [← ga_eq t3]; exact hj) (by rw [← e1, ← e2]; exact k)).1
        exact i3 (by rw [e3]; exact Gn.rf _ _)
      · obtain ⟨f1, f2⟩ := par_un hX k1.1 t1 k1.2.1 hj (by rw [k1.2.2, e1])
        obtain ⟨f3, f4⟩ := par_un hX k2.1 t2 k2.2.1 (by rw [← ga_eq t3]; exact hj) (by rw [k2.2.2, e2])
        rcases k3 with k3 | k3
        · exact k3 f2
        · rw [f1, f3] at k3
          exact i3 k3
      · exact k (Gn.rf _ _)
    · rcases q with h | ⟨h1, h2, a, a', i, h3, h4, h5⟩ | ⟨h1, h2⟩
      · exact Or.inl h.symm
      · exact Or.inr (Or.inl ⟨h2, h1, a', a, i, h4, h3, h5.imp id Gn.sy⟩)
      · exact Or.inr (Or.inr ⟨h2, h1⟩)
    · rcases q with h | ⟨h1, h2, a, a', i, h3, h4, h5⟩ | ⟨h1, h2⟩
      · subst h; exact r
      · rcases r with k | ⟨k1, k2, c, c', i', k3, k4, k5⟩ | ⟨k1, k2⟩
        · subst k; exact Or.inr (Or.inl ⟨h1, h2, a, a', i, h3, h4, h5⟩)
        · obtain ⟨e1, e2⟩ := par_un hX h4.1 k3.1 h4.2.1 k3.2.1 (h4.2.2.trans k3.2.2.symm)
          subst e1
          subst e2
          refine Or.inr (Or.inl ⟨h1, k2, a, c', i, h3, k4, ?_⟩)
          rcases h5 with h5 | h5
          · exact Or.inl h5
          · rcases k5 with k5 | k5
            · exact Or.inl k5
            · exact Or.inr (h5.tr k5)
        · exact absurd h2 k1
      · rcases r with k | ⟨k1, k2, c, c', i', k3, k4, k5⟩ | ⟨k1, k2⟩
        · subst k; exact Or.inr (Or.inr ⟨h1, h2⟩)
        · exact absurd k1 h2
        · exact Or.inr (Or.inr ⟨h1, k2⟩)
    · have gq : Gn dn q.1 q.2 := Gn.of hq
      by_cases c : Gn dn q.1 p1
      · obtain ⟨o1, o2, o3, o4⟩ := a4 q (List.mem_append_left _ hq)
        rcases i2 q hq with ⟨x, s, h1, h2⟩ | h | ⟨y, hy, i, h1, h2⟩ | ⟨i, h1, h2⟩
        · refine absurd ⟨x, s, h1, ?_⟩ hno
          rcases h2 with h2 | h2
          · rw [h2]; exact c
          · rw [h2]; exact gq.sy.tr c
        · rw [h] at c
          have hN : 0 < X.length := by have := hY.2; omega
          have := Gn_U hX a1 a3 hw1 hN c
          have := hM0 1 w1 hw1
          omega
        · have hy2 : y ∈ dn ++ top :: an := by
            rcases List.mem_append.mp hy with z | z
            · exact List.mem_append_left _ z
            · exact List.mem_append_right _ (List.mem_cons_of_mem _ z)
          obtain ⟨y1, y2, y3, y4⟩ := a4 y hy2
          exact Or.inr (Or.inl ⟨c, gq.sy.tr c, y.1, y.2, i, ⟨y1, h1, by rw [h2]⟩, ⟨y2, by rw [← ga_eq y3]; exact h1, by rw [h2]⟩, Or.inr (Gn.of hy)⟩)
        · exact Or.inr (Or.inl ⟨c, gq.sy.tr c, top.1, top.2, i, ⟨t1, by omega, by rw [h2]⟩, ⟨t2, by rw [← ga_eq t3]; omega, by rw [h2]⟩, Or.inl (by omega)⟩)
      · exact Or.inr (Or.inr ⟨c, fun z => c (gq.tr z)⟩)
  obtain ⟨x, s, hx1, hx2⟩ := hnm
  have hsN := (a1 x s hx1).2.1
  have hwx : ∀ b w, VW X S b w → w x = uP X b w p1 := fun b w hw => by
    rw [hw.2 x s hx1, ← dp_U hX a1 hw _ s (Nat.lt_succ_self _) hsN]
    exact Gn_U hX a1 a3 hw (dp_ok hX a1 hsN).2.2 hx2
  have hRec : Rec X S p1 := ⟨p1N, h0, ⟨x, s, hx1, hwx⟩, hM0⟩
  have hTy : Ty X n1 S dn (dn ++ top :: an) := by
    intro q hq
    rcases i2 q hq with h | h | ⟨y, hy, i, h1, h2⟩ | ⟨i, h1, h2⟩
    · exact Or.inl h
    · exact Or.inr (Or.inl h)
    · refine Or.inr (Or.inr ⟨y, ?_, i, h1, h2⟩)
      rcases List.mem_append.mp hy with z | z
      · exact List.mem_append_left _ z
      · exact List.mem_append_right _ (List.mem_cons_of_mem _ z)
    · exact Or.inr (Or.inr ⟨top, List.mem_append_right _ List.mem_cons_self, i, by omega, h2⟩)
  have bound : ∀ b w g, b ≤ 1 → VW X S b w → (∀ x, S x = none → w x = b) → Gp g b → gmon g = true → uP X b w p1 ≤ g (59 - 3 * (R + 1)) := by
    intro b w gg hb hw hbw hg1 hg2
    have H : LVH X n1 S dn (top :: an) rp b w := ⟨hY, a1, a3, a4, hTy, hw, hbw, fun x y => (a5 x y).mp, a6, a7⟩
    have hbl : b < uP X b w p1 := by
      have := uP_kid hX (b := b) (w := w) p1N h0
      have := uP_ge hX hb hw.1 (ko_mono hX p1N h0).2.2.2.2
      omega
    have e1 := hwx b w hw
    rcases hv_ex hX a1 hw hbw (x + 1) x (Nat.lt_succ_self _) with h | ⟨y, q, y1, y2, y3⟩
    · omega
    · have hA := AA_le H (v := uP X b w p1) (hM b w hw) (hM0 b w hw)
      have hh : sJ (hvN X S) 8 ≤ nbS S := sJ_le (fun i _ => hvN_le X S i)
      have hA2 : AA X S rp b w (uP X b w p1) ≤ 59 - 3 * (R + 1) := by omega
      have := lv_ok H hb hg1 _ (uP X b w p1) y q (Nat.le_refl _) y1 y2 (by omega) (hM b w hw) (by omega)
      exact Nat.le_trans this (gmon_to hg2 hA2 (by omega))
  obtain ⟨r1, r0, C, n, run, hC, hn, hr1, hr0⟩ := rwalk hY a1 a3 hw1 f (ko X top.1 j) (ko X top.2 j) m ((top :: an).map Prod.fst) kp kq hAp i5 (fun c hc => by
    obtain ⟨y, hy, e⟩ := List.mem_map.mp hc
    subst e
    exact ⟨(a4 y (List.mem_append_right _ hy)).1, (kU 1 w1 hw1 y hy).1⟩) (by rw [List.length_map]; exact hf)
  have b1 := bound 1 w1 g1 (Nat.le_refl _) hw1 hb1 g1_p g1_mon
  have b0 := bound 0 w0 g0 (by decide) hw0 hb0 g0_p g0_mon
  have s1 := hr1 w1 hw1
  have s0 := hr0 w0 hw0
  rw [← Up1 1 w1 hw1] at s1
  rw [← Up1 0 w0 hw0] at s0
  have G1s : G1 (R + 1) = G1 R + g1 (59 - 3 * (R + 1)) := rfl
  have G0s : G0 (R + 1) = G0 R + g0 (59 - 3 * (R + 1)) := rfl
  refine ⟨m + r1, C, n, c1 + r1, c0 + r0, run, by omega, ⟨⟨a1, a2, a3, a4, a5, a6, a7⟩, i2.new hX a1 a1 (Up.rf S) (fun q hq => a4 q (List.mem_append_left _ hq)) (fun _ h => h) (fun z hz => Or.inl hz), i3, i4, i5, i6, ⟨by omega, by omega⟩, by omega, by omega, by rw [List.length_cons, k3], fun t ht => ?_, fun w hw => ?_, fun w hw => ?_⟩, hAp, by omega, by omega⟩
  · rcases List.mem_cons.mp ht with z | z
    · rw [z]; exact hRec
    · exact k4 t z
  · have := k5 w hw
    have := hr1 w hw
    rw [← Up1 1 w hw] at this
    rw [List.map_cons, List.sum_cons]
    omega
  · have := k6 w hw
    have := hr0 w hw
    rw [← Up1 0 w hw] at this
    rw [List.map_cons, List.sum_cons]
    omega
end INS
