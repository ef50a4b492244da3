section U62bd7
/-! the bound on the steps, 7: what a name's weight is at most -/
def hvN (X : List Nat) (S : SS) (x : Nat) : Nat := match S x with
  | some p => if 10 ≤ gl X p then 1 else 0
  | none => 0
def nbN (S : SS) (x : Nat) : Nat := match S x with
  | some _ => 1
  | none => 0
theorem hvN_le (X : List Nat) (S : SS) (x : Nat) : hvN X S x ≤ nbN S x := by
  unfold hvN nbN
  split
  · split <;> omega
  · omega
theorem hvN_1 {X : List Nat} {S : SS} {x p : Nat} (h : S x = some p) (h2 : 10 ≤ gl X p) : hvN X S x = 1 := by unfold hvN; rw [h]; exact if_pos h2
def cA' (X : List Nat) (rp : Nat → Nat) (b : Nat) (w : Nat → Nat) (v : Nat) : Nat := sJ (fun c => if rp c = c ∧ uP X b w c ≤ v then 2 * ga X c else 0) X.length
def AA (X : List Nat) (S : SS) (rp : Nat → Nat) (b : Nat) (w : Nat → Nat) (v : Nat) : Nat := cA' X rp b w v + 3 * sJ (fun x => if w x ≤ v then hvN X S x else 0) 8
/-- a table of the greatest sizes -/
def Gp (g : Nat → Nat) (b : Nat) : Prop := (∀ n, b ≤ g n) ∧ ∀ n t e v, v ≤ g n → 1 ≤ t → e ≤ 2 * t → n + 2 * (t + e) + 3 ≤ 60 → ∀ n', n + 2 * (t + e) + 3 ≤ n' → n' ≤ 60 → t + (1 + e) * v ≤ g n'
theorem hv_ex {X : List Nat} (hX : BX X) {S : SS} (hS : S1 X S) {b : Nat} {w : Nat → Nat} (hw : VW X S b w) (hb : ∀ x, S x = none → w x = b) : ∀ n x, x < n → w x = b ∨ ∃ y q, S y = some q ∧ 10 ≤ gl X q ∧ w y = w x
  | 0, x, h => by omega
  | n + 1, x, h => by
    cases hx : S x with
    | none => exact Or.inl (hb x hx)
    | some q =>
      rcases Nat.lt_or_ge (gl X q) 10 with c | c
      · obtain ⟨h1, h2, h3⟩ := hS x q hx
        have h4 := h3 c
        have e : w x = w (gl X q) := by
          rw [hw.2 x q hx, uP_leaf hX h2 (ga_name c)]
          unfold wl
          rw [if_pos c]
        rw [e]
        exact hv_ex hX hS hw hb n _ (by omega)
      · exact Or.inr ⟨x, q, hx, c, rfl⟩
theorem mx_ex {X : List Nat} {S : SS} {b : Nat} {w : Nat → Nat} {v : Nat} : ∀ n : Nat, ∃ v', b ≤ v' ∧ (v' = b ∨ ∃ y q, S y = some q ∧ 10 ≤ gl X q ∧ w y = v' ∧ v' < v) ∧ ∀ y q, y < n → S y = some q → 10 ≤ gl X q → w y < v → w y ≤ v'
  | 0 => ⟨b, Nat.le_refl _, Or.inl rfl, fun y q h => by omega⟩
  | n + 1 => by
    obtain ⟨v', h1, h2, h3⟩ := mx_ex (X := X) (S := S) (b := b) (w := w) (v := v) n
    by_cases c : ∃ q, S n = some q ∧ 10 ≤ gl X q ∧ w n < v ∧ v' < w n
    · obtain ⟨q, c1, c2, c3, c4⟩ := c
      refine ⟨w n, by omega, Or.inr ⟨n, q, c1, c2, rfl, c3⟩, fun y q' hy e1 e2 e3 => ?_⟩
      rcases Nat.lt_or_ge y n with z | z
      · have := h3 y q' z e1 e2 e3
        omega
      · have : y = n := by omega
        rw [this]
        exact Nat.le_refl _
    · refine ⟨v', h1, h2, fun y q' hy e1 e2 e3 => ?_⟩
      rcases Nat.lt_or_ge y n with z | z
      · exact h3 y q' z e1 e2 e3
      · have : y = n := by omega
        subst this
        exact Nat.le_of_not_lt (fun h => c ⟨q', e1, e2, e3, h⟩)
theorem lv_ok {X : List Nat} {n1 : Nat} {S : SS} {dn an : PL2} {rp : Nat → Nat} {b : Nat} {w : Nat → Nat} (H : LVH X n1 S dn an rp b w) (hb1 : b ≤ 1) {g : Nat → Nat} (hg : Gp g b) :
    ∀ n v x p, v ≤ n → S x = some p → 10 ≤ gl X p → w x = v → (∀ q ∈ an, v < uP X b w q.1 ∧ v < uP X b w q.2) → AA X S rp b w v ≤ 60 → v ≤ g (AA X S rp b w v) := by
  have H' := H
  obtain ⟨hY, hS, hC, hO, hT, hw, hb, r1, r2, r3⟩ := H
  have hX := hY.1
  intro n
  induction n with
  | zero => intro v x p hn _ _ _ _ _; omega
  | succ n ih =>
    intro v x p hn hx hp10 hwx hM hA
    obtain ⟨x8, hp, -⟩ := hS x p hx
    have hu : uP X b w p = v := by rw [← hw.2 x p hx]; exact hwx
    rcases Nat.eq_zero_or_pos (ga X p) with z | z
    · rw [uP_leaf hX hp z] at hu
      have : v = b := by
        rw [← hu]
        unfold wl
        rw [if_neg (by omega), if_pos (show pF (gl X p) = 0 from z)]
      rw [this]
      exact hg.1 _
    obtain ⟨v', m1, m2, m3⟩ := mx_ex (X := X) (S := S) (b := b) (w := w) (v := v) 8
    have hbv : b < v := by
      have h1 := uP_kid hX (b := b) (w := w) hp (show 0 < ga X p from z)
      have h2 := uP_ge hX hb1 hw.1 (ko_mono hX hp z).2.2.2.2
      omega
    have hvv : v' < v := by
      rcases m2 with h | ⟨y, q, -, -, -, h⟩
      · omega
      · exact h
    have m4 : ∀ y q, S y = some q → w y < v → w y ≤ v' := by
      intro y q hy hlt
      rcases hv_ex hX hS hw hb (y + 1) y (Nat.lt_succ_self _) with h | ⟨y2, q2, h1, h2, h3⟩
      · omega
      · have := m3 y2 q2 (hS y2 q2 h1).1 h1 h2 (by omega)
        omega
    have fr := fr_ok hX (b := b) (w := w) (v := v') hp (fun s s1 s2 s3 => ?_) (tl X p) p (Nat.le_refl _) (Nat.le_refl _) (Nat.le_refl _) hp
    · have cls := cls_ok H' hp (fun q hq => by rw [hu]; exact hM q hq) (v := v') (fun y q h1 h2 h3 => by have := m4 y q h1 (by omega); omega)
      rw [hu] at fr cls
      generalize ht : cI X (fun i => if v' < uP X b w i then 1 else 0) p = t at fr
      generalize he : cI X (fun i => if v' < uP X b w i then ga X i - 1 else 0) p = e at fr
      have h0 := (bx_tl hX hp).2.1
      have h1 : 1 ≤ t := by
        rw [← ht]
        have := sJ_mem (f := fun i => if v' < uP X b w (p + i) then 1 else 0) h0
        rw [Nat.add_zero, if_pos (by omega)] at this
        exact this
      have h2 : e ≤ 2 * t := by
        rw [← ht, ← he]
        unfold cI
        rw [← sJ_two]
        refine sJ_le (fun i hi => ?_)
        have := ga_le hX (show p + i < X.length by have := (bx_tl hX hp).2.2; omega)
        dsimp only
        split <;> omega
      have h3 : 2 * (t + e) ≤ sJ (fun i => if v' < uP X b w (p + i) then 2 * ga X (p + i) else 0) (tl X p) := by
        rw [← ht, ← he]
        unfold cI
        rw [← sJ_plus, ← sJ_two]
        refine sJ_le (fun i hi => ?_)
        dsimp only
        split
        · rename_i hc
          have : 0 < ga X (p + i) := Decidable.byContradiction (fun y => by
            have h5 := (uP_in hX (b := b) (w := w) _ p (p + i) (Nat.le_refl _) hp (by omega) (by omega))
            have hpi : p + i < X.length := by have := (bx_tl hX hp).2.2; omega
            have y0 : ga X (p + i) = 0 := by omega
            have hne : p + i ≠ p := fun e9 => by rw [e9] at y0; omega
            have h6 := h5.2 hne
            rw [uP_leaf hX hpi y0] at h6 hc
            unfold wl at h6 hc
            split at hc
            · rename_i h10
              rw [if_pos h10] at h6
              cases hs : S (gl X (p + i)) with
              | none => have := hb _ hs; omega
              | some q => have := m4 _ q hs (by omega); omega
            · rename_i h10
              rw [if_pos (show pF (gl X (p + i)) = 0 from y0)] at hc
              omega)
          omega
        · exact Nat.zero_le _
      have hAA : AA X S rp b w v' + 2 * (t + e) + 3 ≤ AA X S rp b w v := by
        unfold AA
        have k1 : cA' X rp b w v' + sJ (fun c => if rp c = c ∧ v' < uP X b w c ∧ uP X b w c ≤ v then 2 * ga X c else 0) X.length ≤ cA' X rp b w v := by
          unfold cA'
          rw [← sJ_plus]
          refine sJ_le (fun c hc => ?_)
          by_cases a1 : rp c = c
          · by_cases a2 : uP X b w c ≤ v'
            · rw [if_pos (show rp c = c ∧ uP X b w c ≤ v' from ⟨a1, a2⟩), if_neg (show ¬ (rp c = c ∧ v' < uP X b w c ∧ uP X b w c ≤ v) from fun y => by have := y.2.1; omega), if_pos (show rp c = c ∧ uP X b w c ≤ v from ⟨a1, by omega⟩)]
              omega
            · rw [if_neg (show ¬ (rp c = c ∧ uP X b w c ≤ v') from fun y => a2 y.2)]
              by_cases a3 : uP X b w c ≤ v
              · rw [if_pos (show rp c = c ∧ v' < uP X b w c ∧ uP X b w c ≤ v from ⟨a1, by omega, a3⟩), if_pos (show rp c = c ∧ uP X b w c ≤ v from ⟨a1, a3⟩)]
                omega
              · rw [if_neg (show ¬ (rp c = c ∧ v' < uP X b w c ∧ uP X b w c ≤ v) from fun y => a3 y.2.2), if_neg (show ¬ (rp c = c ∧ uP X b w c ≤ v) from fun y => a3 y.2)]
                omega
          · rw [if_neg (show ¬ (rp c = c ∧ uP X b w c ≤ v') from fun y => a1 y.1), if_neg (show ¬ (rp c = c ∧ v' < uP X b w c ∧ uP X b w c ≤ v) from fun y => a1 y.1)]
            exact Nat.zero_le _
        have k2 : sJ (fun x => if w x ≤ v' then hvN X S x else 0) 8 + 1 ≤ sJ (fun x => if w x ≤ v then hvN X S x else 0) 8 := by
          refine sJ_lek (k := x) x8 (fun i hi => ?_) ?_
          · by_cases a2 : w i ≤ v'
            · rw [if_pos a2, if_pos (by omega)]
              exact Nat.le_refl _
            · rw [if_neg a2]
              exact Nat.zero_le _
          · rw [if_neg (by omega), if_pos (by omega), hvN_1 hx hp10]
            exact Nat.le_refl _
        omega
      have hv' : v' ≤ g (AA X S rp b w v') := by
        rcases m2 with h | ⟨y, q, y1, y2, y3, y4⟩
        · rw [h]; exact hg.1 _
        · exact ih v' y q (by omega) y1 y2 y3 (fun q hq => by have := hM q hq; omega) (by omega)
      exact Nat.le_trans fr (hg.2 _ t e v' hv' h1 h2 (by omega) _ hAA hA)
    · refine Decidable.byContradiction (fun y => ?_)
      have h5 := (uP_in hX (b := b) (w := w) _ p s (Nat.le_refl _) hp s1 s2)
      have hpi : s < X.length := by have := (bx_tl hX hp).2.2; omega
      have y0 : ga X s = 0 := by omega
      have hne : s ≠ p := fun e9 => by rw [e9] at y0; omega
      have h6 := h5.2 hne
      rw [uP_leaf hX hpi y0] at h6 s3
      unfold wl at h6 s3
      split at s3
      · rename_i h10
        rw [if_pos h10] at h6
        cases hs : S (gl X s) with
        | none => have := hb _ hs; omega
        | some q => have := m4 _ q hs (by omega); omega
      · rename_i h10
        rw [if_pos (show pF (gl X s) = 0 from y0)] at s3
        omega
end U62bd7
section U63bd8
/-! the bound on the steps, 8: the tables -/
def g1T : List Nat := [1, 1, 1, 1, 1, 2, 2, 3, 3, 4, 4, 5, 5, 6, 7, 7, 10, 10, 13, 13, 16, 16, 19, 22, 22, 31, 31, 40, 40, 49, 49, 58, 67, 67, 94, 94, 121, 121, 148, 148, 175, 202, 202, 283, 283, 364, 364, 445, 445, 526, 607, 607, 850, 850, 1093, 1093, 1336, 1336, 1579, 1822, 1822]
def g0T : List Nat := [0, 0, 0, 0, 0, 1, 1, 2, 2, 3, 3, 4, 4, 5, 5, 6, 7, 7, 10, 10, 13, 13, 16, 16, 19, 22, 22, 31, 31, 40, 40, 49, 49, 58, 67, 67, 94, 94, 121, 121, 148, 148, 175, 202, 202, 283, 283, 364, 364, 445, 445, 526, 607, 607, 850, 850, 1093, 1093, 1336, 1336, 1579]
def g1 (n : Nat) : Nat := g1T.getD n 9999
def g0 (n : Nat) : Nat := g0T.getD n 9999
def gchk (g : Nat → Nat) : Bool := (List.range 58).all fun n => (List.range ((57 - n) / 2 + 1)).all fun t => (List.range ((57 - n) / 2 + 1 - t)).all fun e => !(decide (1 ≤ t) && decide (e ≤ 2 * t)) || decide (t + (1 + e) * g n ≤ g (n + 2 * (t + e) + 3))
def gmon (g : Nat → Nat) : Bool := (List.range 60).all fun n => decide (g n ≤ g (n + 1))
set_option maxRecDepth 100000 in
theorem g1_chk : gchk g1 = true := by decide +kernel
set_option maxRecDepth 100000 in
theorem g0_chk : gchk g0 = true := by decide +kernel
set_option maxRecDepth 100000 in
theorem g1_mon : gmon g1 = true := by decide +kernel
set_option maxRecDepth 100000 in
theorem g0_mon : gmon g0 = true := by decide +kernel
theorem gmon_le {g : Nat → Nat} (h : gmon g = true) {n : Nat} : ∀ {d : Nat}, n + d ≤ 60 → g n ≤ g (n + d)
  | 0, _ => Nat.le_refl _
  | d + 1, hd => by
    have h1 := gmon_le h (n := n) (d := d) (by omega)
    have h2 := of_decide_eq_true (List.all_eq_true.mp h (n + d) (List.mem_range.mpr (by omega)))
    exact Nat.le_trans h1 h2
theorem gmon_to {g : Nat → Nat} (h : gmon g = true) {n m : Nat} (h1 : n ≤ m) (h2 : m ≤ 60) : g n ≤ g m := by
  have := gmon_le h (n := n) (d := m - n) (by omega)
  rw [show n + (m - n) = m by omega] at this
  exact this
theorem Gp_of {g : Nat → Nat} {b : Nat} (h0 : ∀ n, b ≤ g n) (h1 : gchk g = true) (h2 : gmon g = true) : Gp g b := by
  refine ⟨h0, fun n t e v hv ht he hn n' hn' hn6 => ?_⟩
  have k1 := List.all_eq_true.mp (List.all_eq_true.mp (List.all_eq_true.mp h1 n (List.mem_range.mpr (by omega))) t (List.mem_range.mpr (by omega))) e (List.mem_range.mpr (by omega))
  have k2 : t + (1 + e) * g n ≤ g (n + 2 * (t + e) + 3) := by
    rcases Bool.or_eq_true_iff.mp k1 with k | k
    · rw [decide_eq_true ht, decide_eq_true he] at k
      exact absurd k (by decide)
    · exact of_decide_eq_true k
  have k3 := Nat.mul_le_mul_left (1 + e) hv
  have k4 := gmon_to h2 hn' hn6
  omega
theorem g_base {L : List Nat} {b : Nat} (hb : b ≤ 9999) (h : ∀ x ∈ L, b ≤ x) (n : Nat) : b ≤ L.getD n 9999 := by
  rw [List.getD_eq_getElem?_getD]
  cases hn : L[n]? with
  | none => exact hb
  | some x => exact h x (List.mem_of_getElem? hn)
theorem g1_p : Gp g1 1 := Gp_of (g_base (by decide) (by decide)) g1_chk g1_mon
theorem g0_p : Gp g0 0 := Gp_of (fun _ => Nat.zero_le _) g0_chk g0_mon
/-- what failing runs cost at most: sums over the walks that change nothing -/
def G1 (R : Nat) : Nat := sJ (fun j => g1 (59 - 3 * (j + 1))) R
def G0 (R : Nat) : Nat := sJ (fun j => g0 (59 - 3 * (j + 1))) R
def Gfin (h : Nat → Nat) (K : Nat) : Bool := (List.range 22).all fun R => decide (h R ≤ K)
set_option maxRecDepth 100000 in
theorem G1_fin : Gfin G1 4180 = true := by decide +kernel
set_option maxRecDepth 100000 in
theorem G0_fin : Gfin G0 3206 = true := by decide +kernel
theorem Gfin_le {h : Nat → Nat} {K R : Nat} (e : Gfin h K = true) (hR : R < 22) : h R ≤ K := of_decide_eq_true (List.all_eq_true.mp e R (List.mem_range.mpr hR))
end U63bd8
section U64bd9
/-! the bound on the steps, 9: what stays when more names stand for something; a name within a term -/
def Up (S S' : SS) : Prop := ∀ x q, S x = some q → S' x = some q
theorem Up.rf (S : SS) : Up S S := fun _ _ h => h
theorem Up.tr {S S1 S2 : SS} (a : Up S S1) (b : Up S1 S2) : Up S S2 := fun x q h => b x q (a x q h)
theorem Up.bind {S : SS} {x t : Nat} (h : S x = none) : Up S (upS S x t) := fun y q hq => by
  rw [upS_ne _ _ (fun z => by rw [z, h] at hq; cases hq)]
  exact hq
theorem dp_ext {X : List Nat} (hX : BX X) {S S' : SS} (hS : S1 X S) (hS' : S1 X S') (hU : Up S S') : ∀ n p, gl X p < n → p < X.length → dp X S' p = dp X S' (dp X S p)
  | 0, p, hn, hp => by omega
  | n + 1, p, hn, hp => by
    by_cases hg : gl X p < 10
    · cases hq : S (gl X p) with
      | none => rw [dp_free (S := S) (fun _ => hq)]
      | some q =>
        obtain ⟨q1, q2, q3⟩ := hS _ _ hq
        rw [dp_name hX hS' hp hg (hU _ _ hq), dp_name hX hS hp hg hq]
        by_cases hn2 : gl X q < 10
        · have := q3 hn2
          exact dp_ext hX hS hS' hU n q (by omega) q2
        · rw [dp_free (S := S) (fun z => absurd z hn2)]
    · rw [dp_free (S := S) (fun z => absurd z hg)]
theorem dp_head {X : List Nat} (hX : BX X) {S S' : SS} (hS : S1 X S) (hS' : S1 X S') (hU : Up S S') {p : Nat} (hp : p < X.length) (h : 10 ≤ gl X (dp X S p)) : dp X S' p = dp X S p := by
  rw [dp_ext hX hS hS' hU _ p (Nat.lt_succ_self _) hp, dp_free (fun z => by omega)]
theorem Ap.up2 {X : List Nat} (hX : BX X) {S S' : SS} (hS : S1 X S) (hS' : S1 X S') (hU : Up S S') {dn dn' : PL2} (hd : ∀ q ∈ dn, q ∈ dn') {p q : Nat} (hp : p < X.length) (hq : q < X.length) (a : Ap X S dn p q) : Ap X S' dn' p q := by
  unfold Ap
  rw [dp_ext hX hS hS' hU _ p (Nat.lt_succ_self _) hp, dp_ext hX hS hS' hU _ q (Nat.lt_succ_self _) hq]
  obtain ⟨a1, a2⟩ := a
  have d3 := (dp_ok hX hS hp).2.2
  have e3 := (dp_ok hX hS hq).2.2
  generalize dp X S p = p1 at a1 a2 d3
  generalize dp X S q = q1 at a1 a2 e3
  rcases Nat.lt_or_ge (gl X p1) 10 with c | c
  · have c2 : gl X q1 < 10 := by rw [← a1]; exact c
    cases hs : S' (gl X p1) with
    | none =>
      rw [dp_free (fun _ => hs), dp_free (fun _ => by rw [← a1]; exact hs)]
      exact ⟨a1, Or.inl (ga_name c)⟩
    | some s =>
      rw [dp_name hX hS' d3 c hs, dp_name hX hS' e3 c2 (by rw [← a1]; exact hs)]
      exact ⟨rfl, Or.inr (Gn.rf _ _)⟩
  · rw [dp_free (fun z => by omega), dp_free (fun z => by omega)]
    exact ⟨a1, a2.imp id (fun g => g.mono hd)⟩
theorem Cl.up {X : List Nat} (hX : BX X) {S S' : SS} (hS : S1 X S) (hS' : S1 X S') (hU : Up S S') {dn : PL2} (h : Cl X S dn) : Cl X S' dn := fun q hq => by
  obtain ⟨h1, h2, h3, h4⟩ := h q hq
  exact ⟨h1, h2, h3, fun j hj => (h4 j hj).up2 hX hS hS' hU (fun _ z => z) (ko_mono hX h1 hj).2.2.2.2 (ko_mono hX h2 (by rw [← ga_eq h3]; exact hj)).2.2.2.2⟩
/-! isWithin: the set is closed in the end, or holds all names -/
def bt (s y : Nat) : Prop := s >>> y % 2 = 1
theorem bt_or (a b y : Nat) : bt (a ||| b) y ↔ bt a y ∨ bt b y := by
  unfold bt
  have e : ∀ n : Nat, n >>> y % 2 = 1 ↔ n.testBit y = true := by
    intro n
    rw [Nat.testBit, Nat.one_and_eq_mod_two]
    simp
  rw [e, e, e, Nat.testBit_or, Bool.or_eq_true]
theorem namesN_bt {y : Nat} (hy : y < 10) : ∀ (xs : List Nat) (b : Nat), bt (xs.foldl (fun m x => if x < 10 then m ||| 2 ^ x else m) b) y ↔ bt b y ∨ y ∈ xs
  | [], b => by simp
  | x :: r, b => by
    rw [List.foldl_cons, namesN_bt hy r]
    have e : ∀ n : Nat, bt n y ↔ n.testBit y = true := by
      intro n
      unfold bt
      rw [Nat.testBit, Nat.one_and_eq_mod_two]
      simp
    split
    · rw [bt_or, e (2 ^ x), Nat.testBit_two_pow, decide_eq_true_eq, List.mem_cons, or_assoc, eq_comm (a := x)]
    · rename_i h
      rw [List.mem_cons]
      constructor
      · rintro (q | q)
        · exact Or.inl q
        · exact Or.inr (Or.inr q)
      · rintro (q | q | q)
        · exact Or.inl q
        · exact absurd hy (by rw [q]; exact h)
        · exact Or.inr q
theorem namesN_mem {y : Nat} (hy : y < 10) (xs : List Nat) : bt (namesN xs) y ↔ y ∈ xs := by
  unfold namesN
  rw [namesN_bt hy xs 0]
  constructor
  · rintro (q | q)
    · simp [bt] at q
    · exact q
  · exact Or.inr
theorem wStep_bt (sm : SM) (s k y : Nat) (h : bt s y) : bt (wStep sm s k) y := by
  unfold wStep
  split
  · split
    · exact (bt_or _ _ _).mpr (Or.inl h)
    · exact h
  · exact h
theorem wRow_bt (sm : SM) (s y : Nat) (h : bt s y) : ∀ k, bt (wRow sm s k) y
  | 0 => h
  | k + 1 => wStep_bt sm _ k y (wRow_bt sm s y h k)
theorem wRow_mem (sm : SM) (s z : Nat) {t : List Nat} (hz : bt s z) (ht : sm.getD z none = some t) {y : Nat} (hy : y < 10) (hm : y ∈ t) : ∀ n, z < n → bt (wRow sm s n) y
  | 0, h => by omega
  | n + 1, h => by
    rcases Nat.lt_or_ge z n with c | c
    · exact wStep_bt sm _ n y (wRow_mem sm s z hz ht hy hm n c)
    · have : z = n := by omega
      subst this
      show bt (wStep sm (wRow sm s z) z) y
      unfold wStep
      rw [if_pos (show wRow sm s z >>> z % 2 = 1 from wRow_bt sm s z hz z), ht]
      exact (bt_or _ _ _).mpr (Or.inr ((namesN_mem hy t).mpr hm))
def bc8 (s : Nat) : Nat := sJ (fun y => s >>> y % 2) 8
theorem bchk_ok : ∀ s < 256, sJ (fun y => (s >>> y % 2) * 2 ^ y) 8 = s := by decide +kernel
theorem bc_lt {s t : Nat} (hs : s < 256) (ht : t < 256) (h : ∀ y, bt s y → bt t y) (hne : s ≠ t) : bc8 s < bc8 t := by
  have hle : ∀ y, s >>> y % 2 ≤ t >>> y % 2 := fun y => by
    rcases Nat.mod_two_eq_zero_or_one (s >>> y) with z | z
    · rw [z]
      exact Nat.zero_le _
    · have q : t >>> y % 2 = 1 := h y z
      rw [z, q]
      exact Nat.le_refl _
  refine Classical.byContradiction (fun z => hne ?_)
  have heq : ∀ y, y < 8 → s >>> y % 2 = t >>> y % 2 := fun y hy => by
    refine Classical.byContradiction (fun w => z ?_)
    have h2 : s >>> y % 2 + 1 ≤ t >>> y % 2 := Nat.lt_of_le_of_ne (hle y) w
    exact sJ_lek (f := fun y => s >>> y % 2) (g := fun y => t >>> y % 2) (k := y) (d := 1) (n := 8) hy (fun i _ => hle i) h2
  rw [← bchk_ok s hs, ← bchk_ok t ht]
  exact sJ_congr (fun y hy => by rw [heq y hy])
theorem bc_8 {s : Nat} (h : 8 ≤ bc8 s) {y : Nat} (hy : y < 8) : bt s y := by
  refine Classical.byContradiction (fun z => ?_)
  have h0 : s >>> y % 2 = 0 := by
    have : ¬ s >>> y % 2 = 1 := z
    omega
  have h1 := sJ_lek (f := fun y => s >>> y % 2) (g := fun _ => 1) (k := y) (d := 1) (n := 8) hy (fun i _ => by omega) (by omega)
  have h2 : sJ (fun _ => 1) 8 = 8 := rfl
  unfold bc8 at h
  omega
/-- after k times the set is closed, or has grown k times -/
theorem wAll_grow {sm : SM} (hT : TT sm) {s : Nat} (hs : s < 256) : ∀ k, (∃ i, i < k ∧ wAll sm s (i + 1) = wAll sm s i) ∨ bc8 s + k ≤ bc8 (wAll sm s k)
  | 0 => Or.inr (Nat.le_refl _)
  | k + 1 => by
    rcases wAll_grow hT hs k with ⟨i, h1, h2⟩ | h
    · exact Or.inl ⟨i, by omega, h2⟩
    · by_cases e : wAll sm s (k + 1) = wAll sm s k
      · exact Or.inl ⟨k, by omega, e⟩
      · have := bc_lt (wAll_lt hT hs k) (wAll_lt hT hs (k + 1)) (fun y h => wRow_bt sm _ y h 8) (Ne.symm e)
        exact Or.inr (by omega)
theorem wAll_stop {sm : SM} {s i : Nat} (h : wAll sm s (i + 1) = wAll sm s i) : ∀ d, wAll sm s (i + d) = wAll sm s i
  | 0 => rfl
  | d + 1 => by
    show wRow sm (wAll sm s (i + d)) 8 = _
    rw [wAll_stop h d]
    exact h
theorem wAll_bt (sm : SM) {s y : Nat} (h : bt s y) : ∀ k, bt (wAll sm s k) y
  | 0 => h
  | k + 1 => wRow_bt sm _ y (wAll_bt sm h k) 8
/-- a name that isn't within: a closed set without it -/
theorem isWi_no {sm : SM} (hT : TT sm) {t : List Nat} (ht : TW t) {x : Nat} (hx : x < 8) (h : isWi sm x t = false) : ∃ C : Nat → Prop, ¬ C x ∧ (∀ y, y < 10 → y ∈ t → C y) ∧ ∀ z r, z < 8 → C z → sm.getD z none = some r → ∀ y, y < 10 → y ∈ r → C y := by
  have hs := namesN_lt ht.2
  have hn : ¬ bt (wAll sm (namesN t) 8) x := fun z => by
    unfold isWi at h
    rw [decide_eq_true (show wAll sm (namesN t) 8 >>> x % 2 = 1 from z)] at h
    cases h
  rcases wAll_grow hT hs 8 with ⟨i, h1, h2⟩ | h1
  · have h3 := wAll_stop h2
    refine ⟨bt (wAll sm (namesN t) 8), hn, fun y hy hm => wAll_bt sm ((namesN_mem hy t).mpr hm) 8, fun z r hz hc hr y hy hm => ?_⟩
    have h4 := wRow_mem sm _ z hc hr hy hm 8 hz
    have h5 := h3 (8 - i)
    rw [show i + (8 - i) = 8 by omega] at h5
    have h6 := h3 (9 - i)
    rw [show i + (9 - i) = 9 by omega] at h6
    have h7 : wRow sm (wAll sm (namesN t) 8) 8 = wAll sm (namesN t) 8 := h6.trans h5.symm
    rw [h7] at h4
    exact h4
  · exact absurd (bc_8 (by omega) hx) hn
end U64bd9
section U65bd10
/-! the bound on the steps, 10: the state of a run, what changes it -/
def Inv (X : List Nat) (S : SS) (dn an : PL2) (rp : Nat → Nat) : Prop :=
  S1 X S ∧ Ac X S ∧ Cl X S dn ∧ Ok2 X (dn ++ an) ∧ (∀ x y, rp x = rp y ↔ Gn (dn ++ an) x y) ∧ (∀ x, rp (rp x) = rp x) ∧ (∀ x, x < X.length → rp x < X.length)
theorem Inv.bind {X : List Nat} (hX : BX X) {S : SS} {dn an : PL2} {rp : Nat → Nat} (I : Inv X S dn an rp) {x t : Nat} (hx : x < 8) (hf : S x = none) (ht : t < X.length) (h : gl X t < 10 → gl X t < x) {C : Nat → Prop} (h1 : ∀ z q, C z → S z = some q → ∀ i, i < tl X q → gl X (q + i) < 10 → C (gl X (q + i))) (h2 : ¬ C x) (h3 : ∀ i, i < tl X t → gl X (t + i) < 10 → C (gl X (t + i))) : Inv X (upS S x t) dn an rp := by
  obtain ⟨i1, i2, i3, i4, i5, i6, i7⟩ := I
  have s1 := S1_up i1 hx ht h
  exact ⟨s1, Ac_bind i2 h1 h2 h3, i3.up hX i1 s1 (Up.bind hf), i4, i5, i6, i7⟩
theorem sub_mem {X : List Nat} (hX : BX X) {p i : Nat} (hp : p < X.length) (hi : i < tl X p) : gl X (p + i) ∈ sub' X p := by
  have := (bx_tl hX hp).2.2
  refine List.mem_of_getElem? (i := i) ?_
  unfold sub'
  rw [List.getElem?_take_of_lt hi, List.getElem?_drop]
  exact gl_get (by omega)
theorem sub_TW {X : List Nat} (hX : BX X) {p : Nat} (hp : p < X.length) : TW (sub' X p) := by
  obtain ⟨h1, h2, h3⟩ := bx_tl hX hp
  refine ⟨?_, fun x hx => hX.2.1 x (List.mem_of_mem_drop (List.mem_of_mem_take hx))⟩
  rw [sub_len hX hp]
  exact endL_take _ _ _ h1
theorem smO_TT {X : List Nat} {n1 : Nat} (hY : BY X n1) {S : SS} (hS : S1 X S) : TT (smO X S) := by
  refine ⟨by simp [smO], fun r hr => ?_⟩
  unfold smO at hr
  obtain ⟨x, hx, e⟩ := List.mem_map.mp hr
  cases hs : S x with
  | none => rw [hs] at e; cases e
  | some q =>
    rw [hs] at e
    cases e
    have hq := (hS x q hs).2.1
    exact ⟨sub_TW hY.1 hq, by rw [sub_len hY.1 hq]; exact hY.tl16 hq⟩
/-- a name that isn't within, bound -/
theorem Inv.bindW {X : List Nat} {n1 : Nat} (hY : BY X n1) {S : SS} {dn an : PL2} {rp : Nat → Nat} (I : Inv X S dn an rp) {x t : Nat} (hx : x < 8) (hf : S x = none) (ht : t < X.length) (h : 10 ≤ gl X t) (hw : isWi (smO X S) x (sub' X t) = false) : Inv X (upS S x t) dn an rp := by
  have hX := hY.1
  obtain ⟨C, c1, c2, c3⟩ := isWi_no (smO_TT hY I.1) (sub_TW hX ht) hx hw
  refine I.bind hX hx hf ht (fun z => by omega) (C := C) (fun z q hz hq i hi hg => ?_) c1 (fun i hi hg => c2 _ hg (sub_mem hX ht hi))
  obtain ⟨q1, q2, -⟩ := I.1 z q hq
  refine c3 z (sub' X q) q1 hz ?_ _ hg (sub_mem hX q2 hi)
  rw [smO_get X S q1, hq]
  rfl
theorem Inv.bindN {X : List Nat} (hX : BX X) {S : SS} {dn an : PL2} {rp : Nat → Nat} (I : Inv X S dn an rp) {x t : Nat} (hx : x < 8) (hf : S x = none) (ht : t < X.length) (h : gl X t < x) (hft : S (gl X t) = none) : Inv X (upS S x t) dn an rp := by
  have hn : gl X t < 10 := by omega
  refine I.bind hX hx hf ht (fun _ => h) (C := fun z => z = gl X t) (fun z q hz hq => ?_) (fun z => by omega) (fun i hi _ => ?_)
  · rw [hz, hft] at hq
    cases hq
  · have := tl_leaf hX ht (ga_name hn)
    have : i = 0 := by omega
    rw [this]
    rfl
/-- paths over pairs that are under way -/
theorem Gn_big {dn dn' an : PL2} (hd : ∀ q ∈ dn, q ∈ dn') {x y : Nat} (g : Gn (dn ++ an) x y) : Gn dn' x y ∨ ((∃ q ∈ an, Gn dn' x q.1 ∨ Gn dn' x q.2) ∧ (∃ q ∈ an, Gn dn' y q.1 ∨ Gn dn' y q.2)) := by
  refine g (fun x y => Gn dn' x y ∨ ((∃ q ∈ an, Gn dn' x q.1 ∨ Gn dn' x q.2) ∧ (∃ q ∈ an, Gn dn' y q.1 ∨ Gn dn' y q.2))) (fun a => Or.inl (Gn.rf _ _)) (fun x y q => ?_) (fun x y z q r => ?_) (fun q hq => ?_)
  · rcases q with h | ⟨h1, h2⟩
    · exact Or.inl h.sy
    · exact Or.inr ⟨h2, h1⟩
  · rcases q with h | ⟨⟨q, hq, h1⟩, h2⟩
    · rcases r with k | ⟨⟨q, hq, k1⟩, k2⟩
      · exact Or.inl (h.tr k)
      · exact Or.inr ⟨⟨q, hq, k1.imp (fun z => h.tr z) (fun z => h.tr z)⟩, k2⟩
    · rcases r with k | ⟨k1, k2⟩
      · obtain ⟨q', hq', h2⟩ := h2
        exact Or.inr ⟨⟨q, hq, h1⟩, ⟨q', hq', h2.imp (fun z => k.sy.tr z) (fun z => k.sy.tr z)⟩⟩
      · exact Or.inr ⟨⟨q, hq, h1⟩, k2⟩
  · rcases List.mem_append.mp hq with h | h
    · exact Or.inl (Gn.of (hd q h))
    · exact Or.inr ⟨⟨q, h, Or.inl (Gn.rf _ _)⟩, ⟨q, h, Or.inr (Gn.rf _ _)⟩⟩
/-- the pair at hand: in one class by pairs that are through, or not at all -/
theorem Gn_two {X : List Nat} (hX : BX X) {S : SS} (hS : S1 X S) {dn an : PL2} (hC : Cl X S dn) {b : Nat} {w : Nat → Nat} (hw : VW X S b w) {x y : Nat} (hx : x < X.length) (hy : y < X.length) (hM : ∀ q ∈ an, uP X b w x < uP X b w q.1 ∧ uP X b w y < uP X b w q.2) (g : Gn (dn ++ an) x y) : Gn dn x y := by
  rcases Gn_big (dn' := dn) (fun _ z => z) g with h | ⟨⟨q, hq, h⟩, ⟨r, hr, k⟩⟩
  · exact h
  · have m1 := hM q hq
    have m2 := hM r hr
    rcases h with h | h
    · have := Gn_U hX hS hC hw hx h
      omega
    · have e1 := Gn_U hX hS hC hw hx h
      rcases k with k | k
      · have := Gn_U hX hS hC hw hy k
        omega
      · have := Gn_U hX hS hC hw hy k
        omega
theorem fo_ok {X : List Nat} (hX : BX X) {S : SS} (hS : S1 X S) {dn dn' an : PL2} (hC : Cl X S dn') {b : Nat} {w : Nat → Nat} (hw : VW X S b w) {x y : Nat} (hx : x < X.length) (hy : y < X.length) (hM : ∀ q ∈ an, uP X b w x < uP X b w q.1 ∧ uP X b w y < uP X b w q.2)
    (hd : ∀ q ∈ dn, q ∈ dn') (hn : ∀ q ∈ dn', q ∈ dn ∨ (uP X b w q.1 < uP X b w x ∧ uP X b w q.2 < uP X b w y)) (h : ¬ Gn (dn ++ an) x y) : ¬ Gn (dn' ++ an) x y := by
  intro g
  have small : ∀ q ∈ dn', q ∉ dn → (uP X b w q.1 < uP X b w x ∧ uP X b w q.1 < uP X b w y) ∧ (uP X b w q.2 < uP X b w x ∧ uP X b w q.2 < uP X b w y) := by
    intro q hq hnq
    have e := Gn_U hX hS hC hw (hC q hq).1 (Gn.of hq)
    rcases hn q hq with z | z
    · exact absurd z hnq
    · omega
  have key := g (fun x1 y1 => Gn (dn ++ an) x1 y1 ∨ ((∃ z, Gn (dn ++ an) x1 z ∧ uP X b w z < uP X b w x ∧ uP X b w z < uP X b w y) ∧ (∃ z, Gn (dn ++ an) y1 z ∧ uP X b w z < uP X b w x ∧ uP X b w z < uP X b w y))) (fun a => Or.inl (Gn.rf _ _)) (fun x y q => ?_) (fun x y z q r => ?_) (fun q hq => ?_)
  · rcases key with k | ⟨⟨z, z1, z2, z3⟩, ⟨t, t1, t2, t3⟩⟩
    · exact h k
    · have bx : ∃ q ∈ an, uP X b w x = uP X b w q.2 := by
        rcases Gn_big hd z1 with k | ⟨⟨q, hq, k⟩, -⟩
        · have := Gn_U hX hS hC hw hx k
          omega
        · rcases k with k | k
          · have := Gn_U hX hS hC hw hx k
            have := hM q hq
            omega
          · exact ⟨q, hq, Gn_U hX hS hC hw hx k⟩
      have by' : ∃ q ∈ an, uP X b w y = uP X b w q.1 := by
        rcases Gn_big hd t1 with k | ⟨⟨q, hq, k⟩, -⟩
        · have := Gn_U hX hS hC hw hy k
          omega
        · rcases k with k | k
          · exact ⟨q, hq, Gn_U hX hS hC hw hy k⟩
          · have := Gn_U hX hS hC hw hy k
            have := hM q hq
            omega
      obtain ⟨q, q1, q2⟩ := bx
      obtain ⟨r, r1, r2⟩ := by'
      have := hM q q1
      have := hM r r1
      omega
  · rcases q with h | ⟨h1, h2⟩
    · exact Or.inl h.sy
    · exact Or.inr ⟨h2, h1⟩
  · rcases q with h | ⟨⟨q, hq, h1⟩, h2⟩
    · rcases r with k | ⟨⟨q, hq, k1⟩, k2⟩
      · exact Or.inl (h.tr k)
      · exact Or.inr ⟨⟨q, h.tr hq, k1⟩, k2⟩
    · rcases r with k | ⟨k1, k2⟩
      · obtain ⟨q', hq', h2⟩ := h2
        exact Or.inr ⟨⟨q, hq, h1⟩, ⟨q', k.sy.tr hq', h2⟩⟩
      · exact Or.inr ⟨⟨q, hq, h1⟩, k2⟩
  · rcases List.mem_append.mp hq with k | k
    · by_cases c : q ∈ dn
      · exact Or.inl (Gn.of (List.mem_append_left _ c))
      · have := small q k c
        exact Or.inr ⟨⟨q.1, Gn.rf _ _, this.1⟩, ⟨q.2, Gn.rf _ _, this.2⟩⟩
    · exact Or.inl (Gn.of (List.mem_append_right _ k))
/-- two classes joined -/
def un (rp : Nat → Nat) (a b : Nat) : Nat → Nat := fun x => if rp x = rp a then rp b else rp x
def Wt (X : List Nat) (rp : Nat → Nat) : Nat := sJ (fun c => if rp c = c then 2 * ga X c else 0) X.length
theorem un_ok {X : List Nat} {S : SS} {dn an : PL2} {rp : Nat → Nat} (I : Inv X S dn an rp) {a b : Nat} (ha : a < X.length) (hb : b < X.length) (hg : gl X a = gl X b) (h0 : 0 < ga X a) (hne : rp a ≠ rp b) : Inv X S dn ((a, b) :: an) (un rp a b) ∧ Wt X (un rp a b) + 2 * ga X a = Wt X rp := by
  obtain ⟨i1, i2, i3, i4, i5, i6, i7⟩ := I
  have sub : ∀ q ∈ dn ++ an, q ∈ dn ++ (a, b) :: an := fun q hq => by
    rcases List.mem_append.mp hq with z | z
    · exact List.mem_append_left _ z
    · exact List.mem_append_right _ (List.mem_cons_of_mem _ z)
  have hab : Gn (dn ++ (a, b) :: an) a b := Gn.of (q := (a, b)) (List.mem_append_right _ List.mem_cons_self)
  refine ⟨⟨i1, i2, i3, fun q hq => ?_, fun x y => ⟨fun e => ?_, fun g => ?_⟩, fun x => ?_, fun x hx => ?_⟩, ?_⟩
  · rcases List.mem_append.mp hq with z | z
    · exact i4 q (List.mem_append_left _ z)
    · rcases List.mem_cons.mp z with y | y
      · rw [y]; exact ⟨ha, hb, hg, h0⟩
      · exact i4 q (List.mem_append_right _ y)
  · unfold un at e
    by_cases cx : rp x = rp a
    · have gx := ((i5 x a).mp cx).mono sub
      by_cases cy : rp y = rp a
      · exact gx.tr (((i5 y a).mp cy).mono sub).sy
      · rw [if_pos cx, if_neg cy] at e
        exact (gx.tr hab).tr (((i5 b y).mp e).mono sub)
    · by_cases cy : rp y = rp a
      · rw [if_neg cx, if_pos cy] at e
        exact (((i5 x b).mp e).mono sub).tr (hab.sy.tr (((i5 y a).mp cy).mono sub).sy)
      · rw [if_neg cx, if_neg cy] at e
        exact ((i5 x y).mp e).mono sub
  · refine g (fun x y => un rp a b x = un rp a b y) (fun _ => rfl) (fun _ _ h => h.symm) (fun _ _ _ h k => h.trans k) (fun q hq => ?_)
    have keep : q ∈ dn ++ an → un rp a b q.1 = un rp a b q.2 := fun z => by
      have := (i5 q.1 q.2).mpr (Gn.of z)
      unfold un
      rw [this]
    rcases List.mem_append.mp hq with z | z
    · exact keep (List.mem_append_left _ z)
    · rcases List.mem_cons.mp z with y | y
      · rw [y]
        show (if rp a = rp a then rp b else rp a) = (if rp b = rp a then rp b else rp b)
        rw [if_pos rfl]
        split <;> rfl
      · exact keep (List.mem_append_right _ y)
  · show (if rp (un rp a b x) = rp a then rp b else rp (un rp a b x)) = un rp a b x
    unfold un
    by_cases cx : rp x = rp a
    · rw [if_pos cx, i6, if_neg (Ne.symm hne)]
    · rw [if_neg cx, i6, if_neg cx]
  · unfold un
    split
    · exact i7 b hb
    · exact i7 x hx
  · have gk : gl X (rp a) = gl X a := Gn_gl i4 ((i5 (rp a) a).mp (i6 a))
    have e := sJ_upd (f := fun c => if rp c = c then 2 * ga X c else 0) (g := fun c => if un rp a b c = c then 2 * ga X c else 0) (k := rp a) (i7 a ha) (fun c hc => by
      have : (un rp a b c = c) ↔ (rp c = c) := by
        unfold un
        by_cases z : rp c = rp a
        · rw [if_pos z]
          constructor
          · intro y
            rw [← y, i6] at z
            exact absurd z.symm hne
          · intro y
            rw [y] at z
            exact absurd z hc
        · rw [if_neg z]
      by_cases z : rp c = c
      · rw [if_pos z, if_pos (this.mpr z)]
      · rw [if_neg z, if_neg (fun y => z (this.mp y))])
    have k1 : un rp a b (rp a) ≠ rp a := by
      show (if rp (rp a) = rp a then rp b else rp (rp a)) ≠ rp a
      rw [if_pos (i6 a)]
      exact Ne.symm hne
    rw [if_neg k1, if_pos (i6 a), ga_eq gk] at e
    unfold Wt
    omega
theorem pop_ok {X : List Nat} {S : SS} {dn an : PL2} {rp : Nat → Nat} {a b : Nat} (I : Inv X S dn ((a, b) :: an) rp) (hk : ∀ j, j < ga X a → Ap X S dn (ko X a j) (ko X b j)) : Inv X S ((a, b) :: dn) an rp := by
  obtain ⟨i1, i2, i3, i4, i5, i6, i7⟩ := I
  obtain ⟨o1, o2, o3, o4⟩ := i4 (a, b) (List.mem_append_right _ List.mem_cons_self)
  have m1 : ∀ q ∈ dn ++ (a, b) :: an, q ∈ (a, b) :: dn ++ an := fun q hq => by
    rcases List.mem_append.mp hq with z | z
    · exact List.mem_append_left _ (List.mem_cons_of_mem _ z)
    · rcases List.mem_cons.mp z with y | y
      · rw [y]; exact List.mem_append_left _ List.mem_cons_self
      · exact List.mem_append_right _ y
  have m2 : ∀ q ∈ (a, b) :: dn ++ an, q ∈ dn ++ (a, b) :: an := fun q hq => by
    rcases List.mem_append.mp hq with z | z
    · rcases List.mem_cons.mp z with y | y
      · rw [y]; exact List.mem_append_right _ List.mem_cons_self
      · exact List.mem_append_left _ y
    · exact List.mem_append_right _ (List.mem_cons_of_mem _ z)
  refine ⟨i1, i2, fun q hq => ?_, fun q hq => i4 q (m2 q hq), fun x y => ⟨fun e => ((i5 x y).mp e).mono m1, fun g => (i5 x y).mpr (g.mono m2)⟩, i6, i7⟩
  rcases List.mem_cons.mp hq with z | z
  · rw [z]
    exact ⟨o1, o2, o3, fun j hj => (hk j hj).mono (fun q hq => List.mem_cons_of_mem _ hq)⟩
  · obtain ⟨c1, c2, c3, c4⟩ := i3 q z
    exact ⟨c1, c2, c3, fun j hj => (c4 j hj).mono (fun q hq => List.mem_cons_of_mem _ hq)⟩
/-- the class of the two terms is over all levels -/
theorem AA_le {X : List Nat} {n1 : Nat} {S : SS} {dn an : PL2} {rp : Nat → Nat} {b : Nat} {w : Nat → Nat} (H : LVH X n1 S dn an rp b w) {v : Nat} (hM : ∀ q ∈ an, v < uP X b w q.1 ∧ v < uP X b w q.2) (h0 : v < uP X b w 0) : AA X S rp b w v + 2 * ga X 0 ≤ Wt X rp + 3 * sJ (hvN X S) 8 := by
  obtain ⟨hY, hS, hC, hO, hT, hw, hb, r1, r2, r3⟩ := H
  have hX := hY.1
  have hN : 0 < X.length := by have := hY.2; omega
  have k1 : sJ (fun x => if w x ≤ v then hvN X S x else 0) 8 ≤ sJ (hvN X S) 8 := sJ_le (fun i _ => by
    split
    · exact Nat.le_refl _
    · exact Nat.zero_le _)
  have g := r1 (rp 0) 0 (r2 0)
  have hgt : ¬ uP X b w (rp 0) ≤ v := fun z => by
    have g2 := Gn_small hX hS hC hw (r3 0 hN) (fun q hq => by have := hM q hq; omega) g
    have := Gn_U hX hS hC hw (r3 0 hN) g2
    omega
  have k2 : cA' X rp b w v + 2 * ga X 0 ≤ Wt X rp := by
    refine sJ_lek (k := rp 0) (r3 0 hN) (fun c _ => ?_) ?_
    · by_cases z : rp c = c
      · rw [if_pos z]
        split
        · exact Nat.le_refl _
        · exact Nat.zero_le _
      · rw [if_neg z, if_neg (fun y => z y.1)]
        exact Nat.le_refl _
    · rw [if_neg (fun y => hgt y.2), if_pos (r2 0), ga_eq (Gn_gl hO g)]
      omega
  unfold AA
  omega
end U65bd10
section U66bd11
/-! the bound on the steps, 11: what is known of a run, step by step -/
def nbS (S : SS) : Nat := sJ (nbN S) 8
theorem nbS_up {S : SS} {x t : Nat} (hx : x < 8) (h : S x = none) : nbS (upS S x t) = nbS S + 1 := by
  have e := sJ_upd (f := nbN (upS S x t)) (g := nbN S) (k := x) (n := 8) hx (fun i hi => by unfold nbN; rw [upS_ne _ _ hi])
  have e1 : nbN (upS S x t) x = 1 := by unfold nbN; rw [upS_self]
  have e2 : nbN S x = 0 := by unfold nbN; rw [h]
  unfold nbS
  omega
/-- a term that was walked through though it was alike already -/
def Rec (X : List Nat) (S : SS) (t : Nat) : Prop := t < X.length ∧ 0 < ga X t ∧ (∃ x q, S x = some q ∧ ∀ b w, VW X S b w → w x = uP X b w t) ∧ ∀ b w, VW X S b w → uP X b w t < uP X b w 0
theorem Rec.up {X : List Nat} {S S' : SS} (hU : Up S S') {t : Nat} (h : Rec X S t) : Rec X S' t := by
  obtain ⟨h1, h2, ⟨x, q, h3, h4⟩, h5⟩ := h
  exact ⟨h1, h2, ⟨x, q, hU x q h3, fun b w hw => h4 b w (VW_up hU hw)⟩, fun b w hw => h5 b w (VW_up hU hw)⟩
def Pot (X : List Nat) (S : SS) (rp : Nat → Nat) (K R P : Nat) : Prop := Wt X rp + 3 * nbS S + 3 * R + 3 * P ≤ 60 + ga X 0 ∧ 2 * K + 2 * P + Wt X rp ≤ 62
def Cst (X : List Nat) (S : SS) (K R c1 c0 : Nat) (rs : List Nat) : Prop := c1 ≤ K + G1 R ∧ c0 ≤ K + G0 R ∧ rs.length = R ∧ (∀ t ∈ rs, Rec X S t) ∧ (∀ w, VW X S 1 w → c1 ≤ K + (rs.map (uP X 1 w)).sum) ∧ (∀ w, VW X S 0 w → c0 ≤ K + (rs.map (uP X 0 w)).sum)
def nmP (X : List Nat) (S : SS) (q : Nat × Nat) : Prop := ∃ x p, S x = some p ∧ (dp X S p = q.1 ∨ dp X S p = q.2)
def Ty2 (X : List Nat) (n1 : Nat) (S : SS) (dn P : PL2) (top : Nat × Nat) (j : Nat) : Prop := ∀ q ∈ dn, nmP X S q ∨ q = (0, n1) ∨ (∃ y ∈ P, ∃ i, i < ga X y.1 ∧ q = (ko X y.1 i, ko X y.2 i)) ∨ ∃ i, i < j ∧ q = (ko X top.1 i, ko X top.2 i)
def Ins (X : List Nat) (n1 : Nat) (S : SS) (dn : PL2) (top : Nat × Nat) (an : PL2) (rp : Nat → Nat) (j P K R c1 c0 : Nat) (rs : List Nat) : Prop :=
  Inv X S dn (top :: an) rp ∧ Ty2 X n1 S dn (dn ++ an) top j ∧ ¬ Gn (dn ++ an) top.1 top.2 ∧ (0, n1) ∈ top :: an ∧ ((top :: an).map Prod.fst).Nodup ∧ (∀ b w, VW X S b w → ∀ y ∈ an, uP X b w top.1 < uP X b w y.1 ∧ uP X b w top.2 < uP X b w y.2) ∧ Pot X S rp K R P ∧ Cst X S K R c1 c0 rs
def New (X : List Nat) (S : SS) (dn dn' : PL2) (p q : Nat) : Prop := ∀ z ∈ dn', z ∈ dn ∨ ((∀ b w, VW X S b w → uP X b w z.1 ≤ uP X b w p ∧ uP X b w z.2 ≤ uP X b w q) ∧ (nmP X S z ∨ (∃ y ∈ dn', ∃ i, i < ga X y.1 ∧ z = (ko X y.1 i, ko X y.2 i)) ∨ z = (p, q)))
def NewL (X : List Nat) (S : SS) (dn dn' : PL2) (a b : Nat) : Prop := ∀ z ∈ dn', z ∈ dn ∨ ((∀ c w, VW X S c w → uP X c w z.1 < uP X c w a ∧ uP X c w z.2 < uP X c w b) ∧ (nmP X S z ∨ (∃ y ∈ dn', ∃ i, i < ga X y.1 ∧ z = (ko X y.1 i, ko X y.2 i)) ∨ ∃ i, i < ga X a ∧ z = (ko X a i, ko X b i)))
theorem nmP.up {X : List Nat} (hX : BX X) {S S' : SS} (hS : S1 X S) (hS' : S1 X S') (hU : Up S S') {q : Nat × Nat} (h1 : 0 < ga X q.1) (h2 : gl X q.1 = gl X q.2) (h : nmP X S q) : nmP X S' q := by
  obtain ⟨x, p, e, f⟩ := h
  have hp := (hS x p e).2.1
  have g10 : 10 ≤ gl X (dp X S p) := by
    rcases f with f | f
    · rw [f]; exact (ga_pos h1).1
    · rw [f, ← h2]; exact (ga_pos h1).1
  exact ⟨x, p, hU x p e, by rw [dp_head hX hS hS' hU hp g10]; exact f⟩
theorem Ty2.new {X : List Nat} (hX : BX X) {n1 : Nat} {S S' : SS} (hS : S1 X S) (hS' : S1 X S') (hU : Up S S') {dn dn' an : PL2} {top : Nat × Nat} {j : Nat} (hO : Ok2 X dn) (hd : ∀ q ∈ dn, q ∈ dn') (hN : New X S' dn dn' (ko X top.1 j) (ko X top.2 j)) (T : Ty2 X n1 S dn (dn ++ an) top j) : Ty2 X n1 S' dn' (dn' ++ an) top (j + 1) := by
  intro q hq
  rcases hN q hq with z | ⟨-, z | ⟨y, y1, i, y2, y3⟩ | z⟩
  · obtain ⟨o1, o2, o3, o4⟩ := hO q z
    rcases T q z with t | t | ⟨y, y1, i, y2, y3⟩ | ⟨i, i1, i2⟩
    · exact Or.inl (t.up hX hS hS' hU o4 o3)
    · exact Or.inr (Or.inl t)
    · refine Or.inr (Or.inr (Or.inl ⟨y, ?_, i, y2, y3⟩))
      rcases List.mem_append.mp y1 with t | t
      · exact List.mem_append_left _ (hd y t)
      · exact List.mem_append_right _ t
    · exact Or.inr (Or.inr (Or.inr ⟨i, by omega, i2⟩))
  · exact Or.inl z
  · exact Or.inr (Or.inr (Or.inl ⟨y, List.mem_append_left _ y1, i, y2, y3⟩))
  · exact Or.inr (Or.inr (Or.inr ⟨j, by omega, z⟩))
section INS
variable {X : List Nat} {n1 : Nat} {S : SS} {dn an : PL2} {top : Nat × Nat} {rp : Nat → Nat} {j P K R c1 c0 : Nat} {rs : List Nat}
theorem Ins.hd (I : Ins X n1 S dn top an rp j P K R c1 c0 rs) : top.1 < X.length ∧ top.2 < X.length ∧ gl X top.1 = gl X top.2 ∧ 0 < ga X top.1 := I.1.2.2.2.1 top (List.mem_append_right _ List.mem_cons_self)
theorem Ins.ok2 (I : Ins X n1 S dn top an rp j P K R c1 c0 rs) : Ok2 X dn := fun q hq => I.1.2.2.2.1 q (List.mem_append_left _ hq)
/-- the pair at hand -/
theorem Ins.kid (hY : BY X n1) (I : Ins X n1 S dn top an rp j P K R c1 c0 rs) (hj : j < ga X top.1) : ko X top.1 j < X.length ∧ ko X top.2 j < X.length ∧ ∀ b w, VW X S b w → ∀ y ∈ top :: an, uP X b w (ko X top.1 j) < uP X b w y.1 ∧ uP X b w (ko X top.2 j) < uP X b w y.2 := by
  obtain ⟨t1, t2, t3, t4⟩ := I.hd
  have hX := hY.1
  have hj2 : j < ga X top.2 := by rw [← ga_eq t3]; exact hj
  refine ⟨(ko_mono hX t1 hj).2.2.2.2, (ko_mono hX t2 hj2).2.2.2.2, fun b w hw y hy => ?_⟩
  have h1 := uP_kid hX (b := b) (w := w) t1 hj
  have h2 := uP_kid hX (b := b) (w := w) t2 hj2
  rcases List.mem_cons.mp hy with z | z
  · rw [z]; exact ⟨h1, h2⟩
  · have := I.2.2.2.2.2.1 b w hw y z
    omega
theorem Ins.w (hY : BY X n1) (I : Ins X n1 S dn top an rp j P K R c1 c0 rs) {b : Nat} (hb : b ≤ 1) : ∃ w, VW X S b w ∧ ∀ x, S x = none → w x = b := VW_ex hY.1 I.1.2.1 (fun x q h => (I.1.1 x q h).2.1) (f := fun _ => b) hb (fun _ => Nat.le_refl _)
theorem Ins.root (I : Ins X n1 S dn top an rp j P K R c1 c0 rs) : 0 < ga X 0 := (I.1.2.2.2.1 (0, n1) (List.mem_append_right _ I.2.2.2.1)).2.2.2
theorem st1_ok (hY : BY X n1) (I : Ins X n1 S dn top an rp j (P + 1) K R c1 c0 rs) {S' : SS} (hU : Up S S') (hI : Inv X S' dn (top :: an) rp) (hn : nbS S' ≤ nbS S + 1) : Ins X n1 S' dn top an rp (j + 1) P (K + 1) R (c1 + 1) c0 rs := by
  have hO := I.ok2
  obtain ⟨i1, i2, i3, i4, i5, i6, ⟨p1, p2⟩, ⟨k1, k2, k3, k4, k5, k6⟩⟩ := I
  refine ⟨hI, i2.new hY.1 i1.1 hI.1 hU hO (fun _ h => h) (fun z hz => Or.inl hz), i3, i4, i5, fun b w hw => i6 b w (VW_up hU hw), ⟨by omega, by omega⟩, by omega, by omega, k3, fun t ht => (k4 t ht).up hU, fun w hw => ?_, fun w hw => ?_⟩
  · have := k5 w (VW_up hU hw)
    omega
  · have := k6 w (VW_up hU hw)
    omega
def Fl (P c1 c0 C n : Nat) : Prop := ∃ W K R d1 d0, W + 3 * R + 3 * P ≤ 63 ∧ 2 * K + 2 * P + W ≤ 62 ∧ d1 ≤ K + G1 R ∧ d0 ≤ K + G0 R ∧ C + 2 + 2 * c1 ≤ 2 * d1 ∧ n + 30 * c0 ≤ 30 * d0
theorem fl_ok (hY : BY X n1) (I : Ins X n1 S dn top an rp j (P + 1) K R c1 c0 rs) : Fl P c1 c0 0 0 := by
  have hg := ga_le hY.1 (show 0 < X.length by have := hY.2; omega)
  obtain ⟨i1, i2, i3, i4, i5, i6, ⟨p1, p2⟩, ⟨k1, k2, k3, k4, k5, k6⟩⟩ := I
  exact ⟨Wt X rp, K + 1, R, c1 + 1, c0, by omega, by omega, by omega, by omega, by omega, by omega⟩
/-- a pair in one class: nothing changes -/
theorem rw_ok (hY : BY X n1) (I : Ins X n1 S dn top an rp j (P + 1) K R c1 c0 rs) (hj : j < ga X top.1) {f m p1 q1 : Nat} (hp1 : p1 = dp X S (ko X top.1 j)) (hq1 : q1 = dp X S (ko X top.2 j)) (hg : gl X p1 = gl X q1) (h0 : 0 < ga X p1) (hrp : rp p1 = rp q1) (hf : 34 ≤ f + (top :: an).length) :
    ∃ m' C n d1 d0, goF f (sub' X (ko X top.1 j)) (sub' X (ko X top.2 j)) (smO X S) m 0 = some (smO X S, m', 0, C, n) ∧ m' + c1 = m + d1 ∧ Ins X n1 S dn top an rp (j + 1) P K (R + 1) d1 d0 (p1 :: rs) ∧ Ap X S dn (ko X top.1 j) (ko X top.2 j) ∧ C + 2 + 2 * c1 = 2 * d1 ∧ n + 30 * c0 ≤ 30 * d0 := by
  have hX := hY.1
  obtain ⟨t1, t2, t3, t4⟩ := I.hd
  obtain ⟨kp, kq, kU⟩ := I.kid hY hj
  have hga0 := I.root
  obtain ⟨w1, hw1, hb1⟩ := I.w hY (b := 1) (by decide)
  obtain ⟨w0, hw0, hb0⟩ := I.w hY (b := 0) (by decide)
  obtain ⟨⟨a1, a2, a3, a4, a5, a6, a7⟩, i2, i3, i4, i5, i6, ⟨po1, po2⟩, ⟨k1, k2, k3, k4, k5, k6⟩⟩ := I
  have Up1 : ∀ b w, VW X S b w → uP X b w p1 = uP X b w (ko X top.1 j) := fun b w hw => by rw [hp1]; exact dp_U hX a1 hw _ _ (Nat.lt_succ_self _) kp
  have Uq1 : ∀ b w, VW X S b w → uP X b w q1 = uP X b w (ko X top.2 j) := fun b w hw => by rw [hq1]; exact dp_U hX a1 hw _ _ (Nat.lt_succ_self _) kq
  have p1N : p1 < X.length := by rw [hp1]; exact (dp_ok hX a1 kp).2.2
  have q1N : q1 < X.length := by rw [hq1]; exact (dp_ok hX a1 kq).2.2
  have g : Gn dn p1 q1 := Gn_two hX a1 a3 hw1 p1N q1N (fun q hq => by rw [Up1 1 w1 hw1, Uq1 1 w1 hw1]; exact kU 1 w1 hw1 q hq) ((a5 p1 q1).mp hrp)
  have hAp : Ap X S dn (ko X top.1 j) (ko X top.2 j) := by
    refine ⟨?_, Or.inr ?_⟩
    · rw [← hp1, ← hq1]; exact hg
    · rw [← hp1, ← hq1]; exact g
  have Ue : ∀ b w, VW X S b w → uP X b w p1 = uP X b w q1 := fun b w hw => Gn_U hX a1 a3 hw p1N g
  have hM : ∀ b w, VW X S b w → ∀ y ∈ top :: an, uP X b w p1 < uP X b w y.1 ∧ uP X b w p1 < uP X b w y.2 := fun b w hw y hy => by
    have := kU b w hw y hy
    have := Up1 b w hw
    have := Uq1 b w hw
    have := Ue b w hw
    omega
  have hM0 : ∀ b w, VW X S b w → uP X b w p1 < uP X b w 0 := fun b w hw => (hM b w hw (0, n1) i4).1
  -- a name stands for it
  have hnm : ∃ x s, S x = some s ∧ Gn dn (dp X S s) p1 := by
    refine Classical.byContradiction (fun hno => ?_)
    have dir : ∀ z r, z < X.length → r = dp X S z → Gn dn r p1 → 10 ≤ gl X r → r = z := by
      intro z r hz hr hgr h10
      by_cases hn : gl X z < 10
      · cases hs : S (gl X z) with
        | none => rw [hr, dp_free (fun _ => hs)]
        | some s =>
          exact absurd ⟨gl X z, s, hs, by rw [← dp_name hX a1 hz hn hs, ← hr]; exact hgr⟩ hno
      · rw [hr, dp_free (fun h => absurd h hn)]
    have e1 := dir _ p1 kp hp1 (Gn.rf _ _) (ga_pos h0).1
    have e2 := dir _ q1 kq hq1 g.sy (by rw [← hg]; exact (ga_pos h0).1)
    have key := g (fun x y => x = y ∨ (Gn dn x p1 ∧ Gn dn y p1 ∧ ∃ a a' i, Kd X a i x ∧ Kd X a' i y ∧ (i ≠ j ∨ Gn (dn ++ an) a a')) ∨ (¬ Gn dn x p1 ∧ ¬ Gn dn y p1)) (fun a => Or.inl rfl) (fun x y q => ?_) (fun x y z q r => ?_) (fun q hq => ?_)
    · rcases key with k | ⟨_, _, a, a', i, k1, k2, k3⟩ | ⟨k, _⟩
      · have e3 : top.1 = top.2 := (par_un hX t1 t2 hj (by rw [← ga_eq t3]; exact hj) (by rw [← e1, ← e2]; exact k)).1
        exact i3 (by rw [e3]; exact Gn.rf _ _)
      · obtain ⟨f1, f2⟩ := par_un hX k1.1 t1 k1.2.1 hj (by rw [k1.2.2, e1])
        obtain ⟨f3, f4⟩ := par_un hX k2.1 t2 k2.2.1 (by rw [← ga_eq t3]; exact hj) (by rw [k2.2.2, e2])
        rcases k3 with k3 | k3
        · exact k3 f2
        · rw [f1, f3] at k3
          exact i3 k3
      · exact k (Gn.rf _ _)
    · rcases q with h | ⟨h1, h2, a, a', i, h3, h4, h5⟩ | ⟨h1, h2⟩
      · exact Or.inl h.symm
      · exact Or.inr (Or.inl ⟨h2, h1, a', a, i, h4, h3, h5.imp id Gn.sy⟩)
      · exact Or.inr (Or.inr ⟨h2, h1⟩)
    · rcases q with h | ⟨h1, h2, a, a', i, h3, h4, h5⟩ | ⟨h1, h2⟩
      · subst h; exact r
      · rcases r with k | ⟨k1, k2, c, c', i', k3, k4, k5⟩ | ⟨k1, k2⟩
        · subst k; exact Or.inr (Or.inl ⟨h1, h2, a, a', i, h3, h4, h5⟩)
        · obtain ⟨e1, e2⟩ := par_un hX h4.1 k3.1 h4.2.1 k3.2.1 (h4.2.2.trans k3.2.2.symm)
          subst e1
          subst e2
          refine Or.inr (Or.inl ⟨h1, k2, a, c', i, h3, k4, ?_⟩)
          rcases h5 with h5 | h5
          · exact Or.inl h5
          · rcases k5 with k5 | k5
            · exact Or.inl k5
            · exact Or.inr (h5.tr k5)
        · exact absurd h2 k1
      · rcases r with k | ⟨k1, k2, c, c', i', k3, k4, k5⟩ | ⟨k1, k2⟩
        · subst k; exact Or.inr (Or.inr ⟨h1, h2⟩)
        · exact absurd k1 h2
        · exact Or.inr (Or.inr ⟨h1, k2⟩)
    · have gq : Gn dn q.1 q.2 := Gn.of hq
      by_cases c : Gn dn q.1 p1
      · obtain ⟨o1, o2, o3, o4⟩ := a4 q (List.mem_append_left _ hq)
        rcases i2 q hq with ⟨x, s, h1, h2⟩ | h | ⟨y, hy, i, h1, h2⟩ | ⟨i, h1, h2⟩
        · refine absurd ⟨x, s, h1, ?_⟩ hno
          rcases h2 with h2 | h2
          · rw [h2]; exact c
          · rw [h2]; exact gq.sy.tr c
        · rw [h] at c
          have hN : 0 < X.length := by have := hY.2; omega
          have := Gn_U hX a1 a3 hw1 hN c
          have := hM0 1 w1 hw1
          omega
        · have hy2 : y ∈ dn ++ top :: an := by
            rcases List.mem_append.mp hy with z | z
            · exact List.mem_append_left _ z
            · exact List.mem_append_right _ (List.mem_cons_of_mem _ z)
          obtain ⟨y1, y2, y3, y4⟩ := a4 y hy2
          exact Or.inr (Or.inl ⟨c, gq.sy.tr c, y.1, y.2, i, ⟨y1, h1, by rw [h2]⟩, ⟨y2, by rw [← ga_eq y3]; exact h1, by rw [h2]⟩, Or.inr (Gn.of hy)⟩)
        · exact Or.inr (Or.inl ⟨c, gq.sy.tr c, top.1, top.2, i, ⟨t1, by omega, by rw [h2]⟩, ⟨t2, by rw [← ga_eq t3]; omega, by rw [h2]⟩, Or.inl (by omega)⟩)
      · exact Or.inr (Or.inr ⟨c, fun z => c (gq.tr z)⟩)
  obtain ⟨x, s, hx1, hx2⟩ := hnm
  have hsN := (a1 x s hx1).2.1
  have hwx : ∀ b w, VW X S b w → w x = uP X b w p1 := fun b w hw => by
    rw [hw.2 x s hx1, ← dp_U hX a1 hw _ s (Nat.lt_succ_self _) hsN]
    exact Gn_U hX a1 a3 hw (dp_ok hX a1 hsN).2.2 hx2
  have hRec : Rec X S p1 := ⟨p1N, h0, ⟨x, s, hx1, hwx⟩, hM0⟩
  have hTy : Ty X n1 S dn (dn ++ top :: an) := by
    intro q hq
    rcases i2 q hq with h | h | ⟨y, hy, i, h1, h2⟩ | ⟨i, h1, h2⟩
    · exact Or.inl h
    · exact Or.inr (Or.inl h)
    · refine Or.inr (Or.inr ⟨y, ?_, i, h1, h2⟩)
      rcases List.mem_append.mp hy with z | z
      · exact List.mem_append_left _ z
      · exact List.mem_append_right _ (List.mem_cons_of_mem _ z)
    · exact Or.inr (Or.inr ⟨top, List.mem_append_right _ List.mem_cons_self, i, by omega, h2⟩)
  have bound : ∀ b w g, b ≤ 1 → VW X S b w → (∀ x, S x = none → w x = b) → Gp g b → gmon g = true → uP X b w p1 ≤ g (59 - 3 * (R + 1)) := by
    intro b w gg hb hw hbw hg1 hg2
    have H : LVH X n1 S dn (top :: an) rp b w := ⟨hY, a1, a3, a4, hTy, hw, hbw, fun x y => (a5 x y).mp, a6, a7⟩
    have hbl : b < uP X b w p1 := by
      have := uP_kid hX (b := b) (w := w) p1N h0
      have := uP_ge hX hb hw.1 (ko_mono hX p1N h0).2.2.2.2
      omega
    have e1 := hwx b w hw
    rcases hv_ex hX a1 hw hbw (x + 1) x (Nat.lt_succ_self _) with h | ⟨y, q, y1, y2, y3⟩
    · omega
    · have hA := AA_le H (v := uP X b w p1) (hM b w hw) (hM0 b w hw)
      have hh : sJ (hvN X S) 8 ≤ nbS S := sJ_le (fun i _ => hvN_le X S i)
      have hA2 : AA X S rp b w (uP X b w p1) ≤ 59 - 3 * (R + 1) := by omega
      have := lv_ok H hb hg1 _ (uP X b w p1) y q (Nat.le_refl _) y1 y2 (by omega) (hM b w hw) (by omega)
      exact Nat.le_trans this (gmon_to hg2 hA2 (by omega))
  obtain ⟨r1, r0, C, n, run, hC, hn, hr1, hr0⟩ := rwalk hY a1 a3 hw1 f (ko X top.1 j) (ko X top.2 j) m ((top :: an).map Prod.fst) kp kq hAp i5 (fun c hc => by
    obtain ⟨y, hy, e⟩ := List.mem_map.mp hc
    subst e
    exact ⟨(a4 y (List.mem_append_right _ hy)).1, (kU 1 w1 hw1 y hy).1⟩) (by rw [List.length_map]; exact hf)
  have b1 := bound 1 w1 g1 (Nat.le_refl _) hw1 hb1 g1_p g1_mon
  have b0 := bound 0 w0 g0 (by decide) hw0 hb0 g0_p g0_mon
  have s1 := hr1 w1 hw1
  have s0 := hr0 w0 hw0
  rw [← Up1 1 w1 hw1] at s1
  rw [← Up1 0 w0 hw0] at s0
  have G1s : G1 (R + 1) = G1 R + g1 (59 - 3 * (R + 1)) := rfl
  have G0s : G0 (R + 1) = G0 R + g0 (59 - 3 * (R + 1)) := rfl
  refine ⟨m + r1, C, n, c1 + r1, c0 + r0, run, by omega, ⟨⟨a1, a2, a3, a4, a5, a6, a7⟩, i2.new hX a1 a1 (Up.rf S) (fun q hq => a4 q (List.mem_append_left _ hq)) (fun _ h => h) (fun z hz => Or.inl hz), i3, i4, i5, i6, ⟨by omega, by omega⟩, by omega, by omega, by rw [List.length_cons, k3], fun t ht => ?_, fun w hw => ?_, fun w hw => ?_⟩, hAp, by omega, by omega⟩
  · rcases List.mem_cons.mp ht with z | z
    · rw [z]; exact hRec
    · exact k4 t z
  · have := k5 w hw
    have := hr1 w hw
    rw [← Up1 1 w hw] at this
    rw [List.map_cons, List.sum_cons]
    omega
  · have := k6 w hw
    have := hr0 w hw
    rw [← Up1 0 w hw] at this
    rw [List.map_cons, List.sum_cons]
    omega
end INS
end U66bd11
section U67bd12
/-! the bound on the steps, 12: the run -/
def GoT (X : List Nat) (n1 f : Nat) : Prop := ∀ (S : SS) (dn : PL2) (top : Nat × Nat) (an : PL2) (rp : Nat → Nat) (j P K R c1 c0 : Nat) (rs : List Nat) (m : Nat), Ins X n1 S dn top an rp j (P + 1) K R c1 c0 rs → j < ga X top.1 → 34 ≤ f + (top :: an).length →
  ∃ sm' m' w' C n, goF f (sub' X (ko X top.1 j)) (sub' X (ko X top.2 j)) (smO X S) m 0 = some (sm', m', w', C, n) ∧
    ((w' = 0 ∧ ∃ (S' : SS) (dn' : PL2) (rp' : Nat → Nat) (K' R' d1 d0 : Nat) (rs' : List Nat), sm' = smO X S' ∧ m' + c1 = m + d1 ∧ Ins X n1 S' dn' top an rp' (j + 1) P K' R' d1 d0 rs' ∧ Up S S' ∧ (∀ q ∈ dn, q ∈ dn') ∧ New X S' dn dn' (ko X top.1 j) (ko X top.2 j) ∧ Ap X S' dn' (ko X top.1 j) (ko X top.2 j) ∧ C + 2 + 2 * c1 = 2 * d1 ∧ n + 30 * c0 ≤ 30 * d0) ∨
      (0 < w' ∧ w' ≤ 2 ∧ Fl P c1 c0 C n))
def FlL (X : List Nat) (a b j P c1 c0 C n : Nat) : Prop := ∃ W K R d1 d0, W + 3 * R + 3 * P ≤ 63 ∧ 2 * K + 2 * P + W ≤ 62 ∧ d1 ≤ K + G1 R ∧ d0 ≤ K + G0 R ∧ C + 2 * c1 ≤ 2 * d1 ∧ n + ko X a j + ko X b j + 30 * c0 ≤ (a + tl X a) + (b + tl X b) + 30 * d0
/-- behind a pair that can't be made alike nothing is done any more -/
theorem gs_ok {X : List Nat} (hX : BX X) {a b : Nat} (ha : a < X.length) (hb : b < X.length) (hg : gl X a = gl X b) (f : Nat) (sm : SM) (m : Nat) {w : Nat} (hw : 0 < w) : ∀ (k j : Nat), j + k = ga X a → ∃ n, goOnF (goF (f + 1)) k (sub' X a) (sub' X b) (ko X a j - a) (ko X b j - b) sm m w = some (sm, m, w, 2 * k, n) ∧ n + ko X a j + ko X b j ≤ (a + tl X a) + (b + tl X b)
  | 0, j, hj => by
    have l1 := ko_last hX ha
    have l2 := ko_last hX hb
    rw [← ga_eq hg] at l2
    rw [Nat.add_zero] at hj
    rw [hj]
    exact ⟨0, rfl, by omega⟩
  | k + 1, j, hj => by
    have j1 : j < ga X a := by omega
    have j2 : j < ga X b := by rw [← ga_eq hg]; exact j1
    obtain ⟨a1, a2, a3, a4, a5⟩ := ko_mono hX ha j1
    obtain ⟨b1, b2, b3, b4, b5⟩ := ko_mono hX hb j2
    obtain ⟨s1, s2⟩ := sub_sub hX ha (show a ≤ ko X a j by omega) a2
    obtain ⟨t1, t2⟩ := sub_sub hX hb (show b ≤ ko X b j by omega) b2
    have k1 : ko X a (j + 1) = ko X a j + tl X (ko X a j) := rfl
    have k2 : ko X b (j + 1) = ko X b j + tl X (ko X b j) := rfl
    obtain ⟨n, h1, h2⟩ := gs_ok hX ha hb hg f sm m hw k (j + 1) (by omega)
    refine ⟨tl X (ko X a j) + tl X (ko X b j) + 0 + n, ?_, by omega⟩
    show (match goF (f + 1) (sub' (sub' X a) (ko X a j - a)) (sub' (sub' X b) (ko X b j - b)) sm m w with
      | none => none
      | some (sm1, m1, w1, c1, n1) => match goOnF (goF (f + 1)) k (sub' X a) (sub' X b) (ko X a j - a + tl (sub' X a) (ko X a j - a)) (ko X b j - b + tl (sub' X b) (ko X b j - b)) sm1 m1 w1 with
        | none => none
        | some (sm2, m2, w2, c2, n2) => some (sm2, m2, w2, 2 + c1 + c2, tl (sub' X a) (ko X a j - a) + tl (sub' X b) (ko X b j - b) + n1 + n2)) = _
    rw [goF_skip f _ _ sm m hw]
    dsimp only
    rw [s1, t1, show ko X a j - a + tl X (ko X a j) = ko X a (j + 1) - a by omega, show ko X b j - b + tl X (ko X b j) = ko X b (j + 1) - b by omega, h1]
    dsimp only
    rw [show 2 + 0 + 2 * k = 2 * (k + 1) by omega]
theorem New.to {X : List Nat} (hX : BX X) {S S' : SS} (hS : S1 X S) (hS' : S1 X S') (hU : Up S S') {dn dn1 dn' : PL2} {a b j : Nat} (ha : a < X.length) (hb : b < X.length) (hg : gl X a = gl X b) (hj : j < ga X a) (hO : Ok2 X dn1) (hd : ∀ q ∈ dn1, q ∈ dn') (h1 : New X S dn dn1 (ko X a j) (ko X b j)) (h2 : NewL X S' dn1 dn' a b) : NewL X S' dn dn' a b := by
  intro z hz
  rcases h2 z hz with y | y
  · rcases h1 z y with t | ⟨t1, t2⟩
    · exact Or.inl t
    · obtain ⟨o1, o2, o3, o4⟩ := hO z y
      refine Or.inr ⟨fun c w hw => ?_, ?_⟩
      · have := t1 c w (VW_up hU hw)
        have := uP_kid hX (b := c) (w := w) ha hj
        have := uP_kid hX (b := c) (w := w) hb (show j < ga X b by rw [← ga_eq hg]; exact hj)
        omega
      · rcases t2 with t | ⟨y', y1, i, y2, y3⟩ | t
        · exact Or.inl (t.up hX hS hS' hU o4 o3)
        · exact Or.inr (Or.inl ⟨y', hd y' y1, i, y2, y3⟩)
        · exact Or.inr (Or.inr ⟨j, hj, t⟩)
  · exact Or.inr y
set_option maxHeartbeats 4000000 in
theorem lp_ok {X : List Nat} {n1 : Nat} (hY : BY X n1) {f : Nat} (IH : GoT X n1 f) : ∀ (k j : Nat) (S : SS) (dn : PL2) (a b : Nat) (an : PL2) (rp : Nat → Nat) (P K R c1 c0 : Nat) (rs : List Nat) (m : Nat), Ins X n1 S dn (a, b) an rp j (P + k) K R c1 c0 rs → j + k = ga X a → 34 ≤ f + ((a, b) :: an).length → (∀ i, i < j → Ap X S dn (ko X a i) (ko X b i)) →
    ∃ sm' m' w' C n, goOnF (goF f) k (sub' X a) (sub' X b) (ko X a j - a) (ko X b j - b) (smO X S) m 0 = some (sm', m', w', C, n) ∧
      ((w' = 0 ∧ ∃ (S' : SS) (dn' : PL2) (rp' : Nat → Nat) (K' R' d1 d0 : Nat) (rs' : List Nat), sm' = smO X S' ∧ m' + c1 = m + d1 ∧ Ins X n1 S' dn' (a, b) an rp' (ga X a) P K' R' d1 d0 rs' ∧ Up S S' ∧ (∀ q ∈ dn, q ∈ dn') ∧ NewL X S' dn dn' a b ∧ (∀ i, i < ga X a → Ap X S' dn' (ko X a i) (ko X b i)) ∧ C + 2 * c1 = 2 * d1 ∧ n + ko X a j + ko X b j + 30 * c0 ≤ (a + tl X a) + (b + tl X b) + 30 * d0) ∨
        (0 < w' ∧ w' ≤ 2 ∧ FlL X a b j P c1 c0 C n)) := by
  have hX := hY.1
  intro k
  induction k with
  | zero =>
    intro j S dn a b an rp P K R c1 c0 rs m I hj hf hA
    obtain ⟨t1, t2, t3, t4⟩ := I.hd
    have l1 := ko_last hX t1
    have l2 := ko_last hX t2
    rw [← ga_eq t3] at l2
    dsimp only at l1 l2
    rw [Nat.add_zero] at hj I
    subst hj
    refine ⟨smO X S, m, 0, 0, 0, rfl, Or.inl ⟨rfl, S, dn, rp, K, R, c1, c0, rs, rfl, rfl, I, Up.rf S, fun _ h => h, fun z hz => Or.inl hz, hA, by omega, by omega⟩⟩
  | succ k ih =>
    intro j S dn a b an rp P K R c1 c0 rs m I hj hf hA
    obtain ⟨t1, t2, t3, t4⟩ := I.hd
    dsimp only at t1 t2 t3 t4
    have j1 : j < ga X a := by omega
    have j2 : j < ga X b := by rw [← ga_eq t3]; exact j1
    obtain ⟨a1, a2, a3, a4, a5⟩ := ko_mono hX t1 j1
    obtain ⟨b1, b2, b3, b4, b5⟩ := ko_mono hX t2 j2
    obtain ⟨s1, s2⟩ := sub_sub hX t1 (show a ≤ ko X a j by omega) a2
    obtain ⟨r1, r2⟩ := sub_sub hX t2 (show b ≤ ko X b j by omega) b2
    have k1 : ko X a (j + 1) = ko X a j + tl X (ko X a j) := rfl
    have k2 : ko X b (j + 1) = ko X b j + tl X (ko X b j) := rfl
    rw [← Nat.add_assoc] at I
    obtain ⟨sm1, m1, w1, C1, n1', run1, res1⟩ := IH S dn (a, b) an rp j (P + k) K R c1 c0 rs m I j1 hf
    dsimp only at run1 res1
    have e0 : ∀ sm2 m2 w2 C2 n2, goOnF (goF f) k (sub' X a) (sub' X b) (ko X a (j + 1) - a) (ko X b (j + 1) - b) sm1 m1 w1 = some (sm2, m2, w2, C2, n2) → goOnF (goF f) (k + 1) (sub' X a) (sub' X b) (ko X a j - a) (ko X b j - b) (smO X S) m 0 = some (sm2, m2, w2, 2 + C1 + C2, tl X (ko X a j) + tl X (ko X b j) + n1' + n2) := by
      intro sm2 m2 w2 C2 n2 h
      show (match goF f (sub' (sub' X a) (ko X a j - a)) (sub' (sub' X b) (ko X b j - b)) (smO X S) m 0 with
        | none => none
        | some (sm1, m1, w1, c1, n1) => match goOnF (goF f) k (sub' X a) (sub' X b) (ko X a j - a + tl (sub' X a) (ko X a j - a)) (ko X b j - b + tl (sub' X b) (ko X b j - b)) sm1 m1 w1 with
          | none => none
          | some (sm2, m2, w2, c2, n2) => some (sm2, m2, w2, 2 + c1 + c2, tl (sub' X a) (ko X a j - a) + tl (sub' X b) (ko X b j - b) + n1 + n2)) = _
      rw [s2, r2, s1, r1, run1]
      dsimp only
      rw [show ko X a j - a + tl X (ko X a j) = ko X a (j + 1) - a by omega, show ko X b j - b + tl X (ko X b j) = ko X b (j + 1) - b by omega, h]
    rcases res1 with ⟨rfl, S2, dn2, rp2, K2, R2, d1, d0, rs2, rfl, hm, I2, U2, D2, N2, A2, hC, hn⟩ | ⟨w0, w2, W, K2, R2, d1, d0, f1, f2, f3, f4, f5, f6⟩
    · have hA2 : ∀ i, i < j + 1 → Ap X S2 dn2 (ko X a i) (ko X b i) := by
        intro i hi
        rcases Nat.lt_or_ge i j with c | c
        · exact (hA i c).up2 hX I.1.1 I2.1.1 U2 D2 (ko_mono hX t1 (by omega)).2.2.2.2 (ko_mono hX t2 (by omega)).2.2.2.2
        · have : i = j := by omega
          rw [this]; exact A2
      obtain ⟨sm3, m3, w3, C3, n3, run3, res3⟩ := ih (j + 1) S2 dn2 a b an rp2 P K2 R2 d1 d0 rs2 m1 I2 (by omega) hf hA2
      refine ⟨sm3, m3, w3, _, _, e0 _ _ _ _ _ run3, ?_⟩
      rcases res3 with ⟨rfl, S3, dn3, rp3, K3, R3, x1, x0, rs3, rfl, hm3, I3, U3, D3, N3, A3, hC3, hn3⟩ | ⟨w0, w2, W, K3, R3, x1, x0, f1, f2, f3, f4, f5, f6⟩
      · exact Or.inl ⟨rfl, S3, dn3, rp3, K3, R3, x1, x0, rs3, rfl, by omega, I3, U2.tr U3, fun q hq => D3 q (D2 q hq), N2.to hX I2.1.1 I3.1.1 U3 t1 t2 t3 j1 I2.ok2 D3 N3, A3, by omega, by omega⟩
      · exact Or.inr ⟨w0, w2, W, K3, R3, x1, x0, f1, f2, f3, f4, by omega, by omega⟩
    · have hf1 : ((a, b) :: an).length ≤ X.length := by
        have := nodup_le X.length _ I.2.2.2.2.1 (fun c hc => by
          obtain ⟨y, hy, e⟩ := List.mem_map.mp hc
          rw [← e]
          exact (I.1.2.2.2.1 y (List.mem_append_right _ hy)).1)
        rw [List.length_map] at this
        exact this
      have hl := hX.2.2
      obtain ⟨f', hf'⟩ : ∃ f', f = f' + 1 := ⟨f - 1, by omega⟩
      subst hf'
      obtain ⟨n3, run3, h3⟩ := gs_ok hX t1 t2 t3 f' sm1 m1 w0 k (j + 1) (by omega)
      refine ⟨sm1, m1, w1, _, _, e0 _ _ _ _ _ run3, Or.inr ⟨w0, w2, W, K2 + k, R2, d1 + k, d0, by omega, by omega, by omega, by omega, by omega, by omega⟩⟩
end U67bd12
section U68bd13
/-! the bound on the steps, 13: a pair -/
theorem dp_bd {X : List Nat} (hX : BX X) {S : SS} {z t q : Nat} (hS : S1 X S) (hS' : S1 X (upS S z t)) (hz : S z = none) (hq : q < X.length) (hg : gl X (dp X S q) = z) (h10 : z < 10) (ht : gl X t < 10 → upS S z t (gl X t) = none) : dp X (upS S z t) q = t := by
  have d3 := (dp_ok hX hS hq).2.2
  rw [dp_ext hX hS hS' (Up.bind hz) _ q (Nat.lt_succ_self _) hq, dp_name hX hS' d3 (by omega) (show upS S z t (gl X (dp X S q)) = some t by rw [hg]; exact upS_self _ _ _), dp_free ht]
theorem dp_st {X : List Nat} (hX : BX X) {S : SS} {z t q : Nat} (hS : S1 X S) (hS' : S1 X (upS S z t)) (hz : S z = none) (hq : q < X.length) (hg : dp X S q = t) (ht : gl X t < 10 → upS S z t (gl X t) = none) : dp X (upS S z t) q = t := by
  rw [dp_ext hX hS hS' (Up.bind hz) _ q (Nat.lt_succ_self _) hq, hg, dp_free ht]
theorem Ap_both {X : List Nat} {S : SS} {dn : PL2} {p q t : Nat} (h1 : dp X S p = t) (h2 : dp X S q = t) : Ap X S dn p q := by
  unfold Ap
  rw [h1, h2]
  exact ⟨rfl, Or.inr (Gn.rf _ _)⟩
set_option maxHeartbeats 8000000 in
theorem go_ok {X : List Nat} {n1 : Nat} (hY : BY X n1) : ∀ f, GoT X n1 f := by
  have hX := hY.1
  intro f
  induction f with
  | zero =>
    intro S dn top an rp j P K R c1 c0 rs m I hj hf
    have := nodup_le X.length _ I.2.2.2.2.1 (fun c hc => by
      obtain ⟨y, hy, e⟩ := List.mem_map.mp hc
      rw [← e]
      exact (I.1.2.2.2.1 y (List.mem_append_right _ hy)).1)
    rw [List.length_map] at this
    have := hX.2.2
    omega
  | succ f IH =>
    intro S dn top an rp j P K R c1 c0 rs m I hj hf
    obtain ⟨t1, t2, t3, t4⟩ := I.hd
    obtain ⟨kp, kq, kU⟩ := I.kid hY hj
    have hS := I.1.1
    obtain ⟨d1, d2, d3⟩ := dp_ok hX hS kp
    obtain ⟨e1, e2, e3⟩ := dp_ok hX hS kq
    have g0 := goF_0 f (sub' X (ko X top.1 j)) (sub' X (ko X top.2 j)) (smO X S) m (d1.trans (congrArg some (sub_cons hX d3))) (e1.trans (congrArg some (sub_cons hX e3)))
    rw [← sub_cons hX d3, ← sub_cons hX e3] at g0
    obtain ⟨p, hp⟩ : ∃ p, p = ko X top.1 j := ⟨_, rfl⟩
    obtain ⟨q, hq⟩ : ∃ q, q = ko X top.2 j := ⟨_, rfl⟩
    obtain ⟨p1, hp1⟩ : ∃ p1, p1 = dp X S p := ⟨_, rfl⟩
    obtain ⟨q1, hq1⟩ : ∃ q1, q1 = dp X S q := ⟨_, rfl⟩
    rw [← hp] at d1 d2 d3 kp kU g0 ⊢
    rw [← hq] at e1 e2 e3 kq kU g0 ⊢
    rw [← hp1] at d1 d2 d3 g0
    rw [← hq1] at e1 e2 e3 g0
    have simple : ∀ S' : SS, goF (f + 1) (sub' X p) (sub' X q) (smO X S) m 0 = some (smO X S', m + 1, 0, 0, 0) → Up S S' → Inv X S' dn (top :: an) rp → nbS S' ≤ nbS S + 1 → Ap X S' dn p q → ∃ sm' m' w' C n, goF (f + 1) (sub' X p) (sub' X q) (smO X S) m 0 = some (sm', m', w', C, n) ∧
        ((w' = 0 ∧ ∃ (S' : SS) (dn' : PL2) (rp' : Nat → Nat) (K' R' d1 d0 : Nat) (rs' : List Nat), sm' = smO X S' ∧ m' + c1 = m + d1 ∧ Ins X n1 S' dn' top an rp' (j + 1) P K' R' d1 d0 rs' ∧ Up S S' ∧ (∀ q ∈ dn, q ∈ dn') ∧ New X S' dn dn' p q ∧ Ap X S' dn' p q ∧ C + 2 + 2 * c1 = 2 * d1 ∧ n + 30 * c0 ≤ 30 * d0) ∨
          (0 < w' ∧ w' ≤ 2 ∧ Fl P c1 c0 C n)) := by
      intro S' hr hU hI hn hA
      exact ⟨_, _, _, _, _, hr, Or.inl ⟨rfl, S', dn, rp, K + 1, R, c1 + 1, c0, rs, rfl, by omega, st1_ok hY I hU hI hn, hU, fun _ h => h, fun z hz => Or.inl hz, hA, by omega, by omega⟩⟩
    have fail : ∀ w', 0 < w' → w' ≤ 2 → goF (f + 1) (sub' X p) (sub' X q) (smO X S) m 0 = some (smO X S, m + 1, w', 0, 0) → ∃ sm' m' w' C n, goF (f + 1) (sub' X p) (sub' X q) (smO X S) m 0 = some (sm', m', w', C, n) ∧
        ((w' = 0 ∧ ∃ (S' : SS) (dn' : PL2) (rp' : Nat → Nat) (K' R' d1 d0 : Nat) (rs' : List Nat), sm' = smO X S' ∧ m' + c1 = m + d1 ∧ Ins X n1 S' dn' top an rp' (j + 1) P K' R' d1 d0 rs' ∧ Up S S' ∧ (∀ q ∈ dn, q ∈ dn') ∧ New X S' dn dn' p q ∧ Ap X S' dn' p q ∧ C + 2 + 2 * c1 = 2 * d1 ∧ n + 30 * c0 ≤ 30 * d0) ∨
          (0 < w' ∧ w' ≤ 2 ∧ Fl P c1 c0 C n)) := by
      intro w' h1 h2 hr
      exact ⟨_, _, _, _, _, hr, Or.inr ⟨h1, h2, fl_ok hY I⟩⟩
    by_cases hx : gl X p1 < 10
    · rw [if_pos hx] at g0
      have x8 := gl_8 hX d3 hx
      have xf := d2 hx
      by_cases hy : gl X q1 < 10
      · rw [if_pos hy] at g0
        have y8 := gl_8 hX e3 hy
        have yf := e2 hy
        by_cases e : gl X p1 = gl X q1
        · rw [if_pos e] at g0
          exact simple S g0 (Up.rf S) I.1 (by omega) ⟨by rw [← hp1, ← hq1]; exact e, Or.inl (by rw [← hp1]; exact ga_name hx)⟩
        · rw [if_neg e] at g0
          by_cases l : gl X p1 < gl X q1
          · rw [if_pos l, show max (gl X p1) (gl X q1) = gl X q1 by omega, smO_set X S y8] at g0
            have hI := I.1.bindN hX y8 yf d3 l xf
            have fr : gl X p1 < 10 → upS S (gl X q1) p1 (gl X p1) = none := fun _ => by rw [upS_ne _ _ (by omega)]; exact xf
            exact simple _ g0 (Up.bind yf) hI (by rw [nbS_up y8 yf]; omega) (Ap_both (dp_st hX hS hI.1 yf kp hp1.symm fr) (dp_bd hX hS hI.1 yf kq (by rw [← hq1]) (by omega) fr))
          · rw [if_neg l, show max (gl X p1) (gl X q1) = gl X p1 by omega, smO_set X S x8] at g0
            have hI := I.1.bindN hX x8 xf e3 (by omega) yf
            have fr : gl X q1 < 10 → upS S (gl X p1) q1 (gl X q1) = none := fun _ => by rw [upS_ne _ _ (by omega)]; exact yf
            exact simple _ g0 (Up.bind xf) hI (by rw [nbS_up x8 xf]; omega) (Ap_both (dp_bd hX hS hI.1 xf kp (by rw [← hp1]) (by omega) fr) (dp_st hX hS hI.1 xf kq hq1.symm fr))
      · rw [if_neg hy] at g0
        unfold bindF at g0
        cases hw : isWi (smO X S) (gl X p1) (sub' X q1) with
        | true =>
          rw [hw, if_pos rfl] at g0
          exact fail 2 (by omega) (by omega) g0
        | false =>
          rw [hw, if_neg (by decide), smO_set X S x8] at g0
          have hI := I.1.bindW hY x8 xf e3 (by omega) hw
          have fr : gl X q1 < 10 → upS S (gl X p1) q1 (gl X q1) = none := fun z => absurd z hy
          exact simple _ g0 (Up.bind xf) hI (by rw [nbS_up x8 xf]; omega) (Ap_both (dp_bd hX hS hI.1 xf kp (by rw [← hp1]) (by omega) fr) (dp_st hX hS hI.1 xf kq hq1.symm fr))
    · rw [if_neg hx] at g0
      by_cases hy : gl X q1 < 10
      · rw [if_pos hy] at g0
        have y8 := gl_8 hX e3 hy
        have yf := e2 hy
        unfold bindF at g0
        cases hw : isWi (smO X S) (gl X q1) (sub' X p1) with
        | true =>
          rw [hw, if_pos rfl] at g0
          exact fail 2 (by omega) (by omega) g0
        | false =>
          rw [hw, if_neg (by decide), smO_set X S y8] at g0
          have hI := I.1.bindW hY y8 yf d3 (by omega) hw
          have fr : gl X p1 < 10 → upS S (gl X q1) p1 (gl X p1) = none := fun z => absurd z hx
          exact simple _ g0 (Up.bind yf) hI (by rw [nbS_up y8 yf]; omega) (Ap_both (dp_st hX hS hI.1 yf kp hp1.symm fr) (dp_bd hX hS hI.1 yf kq (by rw [← hq1]) (by omega) fr))
      · rw [if_neg hy] at g0
        by_cases e : gl X p1 = gl X q1
        · rw [if_pos e] at g0
          have hga := ga_eq e
          rcases Nat.eq_zero_or_pos (ga X p1) with z | z
          · rw [show pF (gl X p1) = 0 from z] at g0
            exact simple S g0 (Up.rf S) I.1 (by omega) ⟨by rw [← hp1, ← hq1]; exact e, Or.inl (by rw [← hp1]; exact z)⟩
          · by_cases hr : rp p1 = rp q1
            · obtain ⟨m', C, n, x1, x0, h1, h2, h3, h4, h5, h6⟩ := rw_ok hY I hj (f := f + 1) (m := m) (p1 := p1) (q1 := q1) (by rw [← hp]; exact hp1) (by rw [← hq]; exact hq1) e z hr hf
              rw [← hp, ← hq] at h1 h4
              exact ⟨_, _, _, _, _, h1, Or.inl ⟨rfl, S, dn, rp, K, R + 1, x1, x0, p1 :: rs, rfl, h2, h3, Up.rf S, fun _ h => h, fun z hz => Or.inl hz, h4, h5, h6⟩⟩
            · have hgl3 := ga_le hX d3
              have Up1 : ∀ b w, VW X S b w → uP X b w p1 = uP X b w p := fun b w hw => by rw [hp1]; exact dp_U hX hS hw _ _ (Nat.lt_succ_self _) kp
              have Uq1 : ∀ b w, VW X S b w → uP X b w q1 = uP X b w q := fun b w hw => by rw [hq1]; exact dp_U hX hS hw _ _ (Nat.lt_succ_self _) kq
              obtain ⟨w1, hw1, -⟩ := I.w hY (b := 1) (by decide)
              obtain ⟨hI, hW⟩ := un_ok I.1 d3 e3 e z hr
              have I0 := I
              have hO := I.ok2
              obtain ⟨i1, i2, i3, i4, i5, i6, ⟨po1, po2⟩, ⟨k1, k2, k3, k4, k5, k6⟩⟩ := I
              have J : Ins X n1 S dn (p1, q1) (top :: an) (un rp p1 q1) 0 (P + ga X p1) (K + 1) R (c1 + 1) (c0 + 1) rs := by
                refine ⟨hI, fun s hs => ?_, fun g => hr ((i1.2.2.2.2.1 p1 q1).mpr g), List.mem_cons_of_mem _ i4, ?_, fun b w hw y hy => ?_, ⟨by omega, by omega⟩, by omega, by omega, k3, k4, fun w hw => ?_, fun w hw => ?_⟩
                · rcases i2 s hs with h | h | ⟨y, hy, i, h1, h2⟩ | ⟨i, h1, h2⟩
                  · exact Or.inl h
                  · exact Or.inr (Or.inl h)
                  · refine Or.inr (Or.inr (Or.inl ⟨y, ?_, i, h1, h2⟩))
                    rcases List.mem_append.mp hy with v | v
                    · exact List.mem_append_left _ v
                    · exact List.mem_append_right _ (List.mem_cons_of_mem _ v)
                  · exact Or.inr (Or.inr (Or.inl ⟨top, List.mem_append_right _ List.mem_cons_self, i, by omega, h2⟩))
                · rw [List.map_cons]
                  refine List.nodup_cons.mpr ⟨fun h => ?_, i5⟩
                  obtain ⟨y, hy, hy2⟩ := List.mem_map.mp h
                  have := (kU 1 w1 hw1 y hy).1
                  have hy3 : y.1 = p1 := hy2
                  rw [hy3, Up1 1 w1 hw1] at this
                  omega
                · have := kU b w hw y hy
                  have := Up1 b w hw
                  have := Uq1 b w hw
                  dsimp only
                  omega
                · have := k5 w hw
                  omega
                · have := k6 w hw
                  omega
              obtain ⟨sm', m', w', C, n, run, res⟩ := lp_ok hY IH (ga X p1) 0 S dn p1 q1 (top :: an) (un rp p1 q1) P (K + 1) R (c1 + 1) (c0 + 1) rs (m + 1) J (by omega) (by rw [List.length_cons]; omega) (fun i hi => absurd hi (Nat.not_lt_zero i))
              have kk1 : ko X p1 0 = p1 + 1 := rfl
              have kk2 : ko X q1 0 = q1 + 1 := rfl
              rw [kk1, kk2, show p1 + 1 - p1 = 1 by omega, show q1 + 1 - q1 = 1 by omega] at run
              have l1 := hY.tl16 d3
              have l2 := hY.tl16 e3
              have g1 := g0.trans run
              rcases res with ⟨rfl, S', dn', rp', K', R', x1, x0, rs', rfl, hm, I2, hU, hD, hN, hA, hC, hn⟩ | ⟨v0, v2, W, K', R', x1, x0, f1, f2, f3, f4, f5, f6⟩
              · have hI2 := pop_ok I2.1 hA
                have hS2 := hI2.1
                have hg10 := (ga_pos z).1
                have dpp : dp X S' p = p1 := by rw [dp_head hX hS hS2 hU kp (by rw [← hp1]; exact hg10), hp1]
                have dqq : dp X S' q = q1 := by rw [dp_head hX hS hS2 hU kq (by rw [← hq1, ← e]; exact hg10), hq1]
                have hNew : New X S' dn ((p1, q1) :: dn') p q := by
                  intro s hs
                  rcases List.mem_cons.mp hs with v | v
                  · refine Or.inr ⟨fun b w hw => ?_, ?_⟩
                    · rw [v]
                      have := Up1 b w (VW_up hU hw)
                      have := Uq1 b w (VW_up hU hw)
                      dsimp only
                      omega
                    · rw [v]
                      by_cases ep : p1 = p
                      · by_cases eq : q1 = q
                        · exact Or.inr (Or.inr (by rw [ep, eq]))
                        · left
                          by_cases hn' : gl X q < 10
                          · cases hs : S (gl X q) with
                            | none => exact absurd (hq1.trans (dp_free (fun _ => hs))) eq
                            | some s' => exact ⟨gl X q, s', hU _ _ hs, Or.inr (by rw [← dp_name hX hS2 kq hn' (hU _ _ hs)]; exact dqq)⟩
                          · exact absurd (hq1.trans (dp_free (fun h => absurd h hn'))) eq
                      · left
                        by_cases hn' : gl X p < 10
                        · cases hs : S (gl X p) with
                          | none => exact absurd (hp1.trans (dp_free (fun _ => hs))) ep
                          | some s' => exact ⟨gl X p, s', hU _ _ hs, Or.inl (by rw [← dp_name hX hS2 kp hn' (hU _ _ hs)]; exact dpp)⟩
                        · exact absurd (hp1.trans (dp_free (fun h => absurd h hn'))) ep
                  · rcases hN s v with y | ⟨y1, y2⟩
                    · exact Or.inl y
                    · refine Or.inr ⟨fun b w hw => ?_, ?_⟩
                      · have := y1 b w hw
                        have := Up1 b w (VW_up hU hw)
                        have := Uq1 b w (VW_up hU hw)
                        omega
                      · rcases y2 with y2 | ⟨y, h1, i, h2, h3⟩ | ⟨i, h2, h3⟩
                        · exact Or.inl y2
                        · exact Or.inr (Or.inl ⟨y, List.mem_cons_of_mem _ h1, i, h2, h3⟩)
                        · exact Or.inr (Or.inl ⟨(p1, q1), List.mem_cons_self, i, h2, h3⟩)
                have hD2 : ∀ s ∈ dn, s ∈ (p1, q1) :: dn' := fun s hs => List.mem_cons_of_mem _ (hD s hs)
                have i6' : ∀ b w, VW X S' b w → ∀ y ∈ an, uP X b w top.1 < uP X b w y.1 ∧ uP X b w top.2 < uP X b w y.2 := fun b w hw => i6 b w (VW_up hU hw)
                obtain ⟨w2, hw2, -⟩ := I2.w hY (b := 1) (by decide)
                have hfo : ¬ Gn (((p1, q1) :: dn') ++ an) top.1 top.2 := by
                  refine fo_ok hX hS2 hI2.2.2.1 hw2 t1 t2 (i6' 1 w2 hw2) hD2 (fun s hs => ?_) i3
                  rcases hNew s hs with y | ⟨y1, -⟩
                  · exact Or.inl y
                  · have := y1 1 w2 hw2
                    have := kU 1 w2 (VW_up hU hw2) top List.mem_cons_self
                    exact Or.inr ⟨by omega, by omega⟩
                have hTy := i2.new (S' := S') (dn' := (p1, q1) :: dn') hX hS hS2 hU hO hD2 (by rw [← hp, ← hq]; exact hNew)
                refine ⟨_, _, _, _, _, g1, Or.inl ⟨rfl, S', (p1, q1) :: dn', rp', K', R', x1, x0, rs', rfl, by omega, ⟨hI2, hTy, hfo, i4, i5, i6', I2.2.2.2.2.2.2.1, I2.2.2.2.2.2.2.2⟩, hU, hD2, hNew, ⟨by rw [dpp, dqq]; exact e, Or.inr (by rw [dpp, dqq]; exact Gn.of (q := (p1, q1)) List.mem_cons_self)⟩, by omega, by omega⟩⟩
              · exact ⟨_, _, _, _, _, g1, Or.inr ⟨v0, v2, W, K', R', x1, x0, f1, f2, f3, f4, by omega, by omega⟩⟩
        · rw [if_neg e] at g0
          exact fail 1 (by omega) (by omega) g0
end U68bd13
section U69bd14
/-! the bound on the steps, 14: two terms from the start -/
theorem sJ_1 : ∀ n, sJ (fun _ => 1) n = n
  | 0 => rfl
  | n + 1 => by show sJ (fun _ => 1) n + 1 = n + 1; rw [sJ_1 n]
theorem cI_ga {X : List Nat} (hX : BX X) : ∀ n p, tl X p ≤ n → p < X.length → cI X (ga X) p + 1 = tl X p
  | 0, p, hn, hp => by have := (bx_tl hX hp).2.1; omega
  | n + 1, p, hn, hp => by
    have h1 := cI_kids hX (f := ga X) hp
    have h2 := cI_kids hX (f := fun _ => 1) hp
    have h3 : ∀ q, cI X (fun _ => 1) q = tl X q := fun q => sJ_1 _
    rw [h3] at h2
    have h4 : sJ (fun j => cI X (fun _ => 1) (ko X p j)) (ga X p) = sJ (fun j => cI X (ga X) (ko X p j) + 1) (ga X p) := sJ_congr (fun j hj => by
      obtain ⟨k1, k2, k3, k4, k5⟩ := ko_mono hX hp hj
      rw [h3]
      exact (cI_ga hX n (ko X p j) (by omega) k5).symm)
    rw [h4, sJ_plus, sJ_1] at h2
    omega
theorem ga_sum {X : List Nat} {n1 : Nat} (hY : BY X n1) : sJ (ga X) X.length + 2 = X.length := by
  obtain ⟨hX, y1, y2, y3, y4, y5, y6⟩ := hY
  have h1 := cI_ga hX _ 0 (Nat.le_refl _) (by omega)
  have h2 := cI_ga hX _ n1 (Nat.le_refl _) y3
  have e1 : cI X (ga X) 0 = sJ (ga X) n1 := by unfold cI; rw [y2]; exact sJ_congr (fun i _ => by rw [Nat.zero_add])
  have e2 : sJ (ga X) X.length = sJ (ga X) n1 + cI X (ga X) n1 := by
    rw [← y4, sJ_add]
    rfl
  omega
def sN : SS := fun _ => none
theorem Inv_0 (X : List Nat) : Inv X sN [] [] (fun x => x) :=
  ⟨fun x q h => (by cases h), ⟨fun _ => 0, 1, fun _ => Nat.zero_lt_one, fun x q h => (by cases h)⟩, fun q h => (by cases h), fun q h => (by cases h), fun x y => ⟨fun (e : x = y) => by subst e; exact Gn.rf _ _, fun g => g (fun x y => x = y) (fun _ => rfl) (fun _ _ h => h.symm) (fun _ _ _ h k => h.trans k) (fun q h => (by cases h))⟩, fun _ => rfl, fun _ h => h⟩
theorem BY_of {one other : List Nat} (h1 : TW one ∧ one.length ≤ 16) (h2 : TW other ∧ other.length ≤ 16) : BY (one ++ other) one.length ∧ sub' (one ++ other) 0 = one ∧ sub' (one ++ other) one.length = other := by
  have a1 : endL 1 ((one ++ other).drop 0) = some one.length := by rw [List.drop_zero]; exact endL_app _ _ _ _ h1.1.1
  have a2 : endL 1 ((one ++ other).drop one.length) = some other.length := by rw [List.drop_left]; exact h2.1.1
  have b1 := tl_of a1
  have b2 := tl_of a2
  have p1 := h1.1.pos
  have p2 := h2.1.pos
  have ln : (one ++ other).length = one.length + other.length := List.length_append
  refine ⟨⟨⟨?_, fun x hx => ?_, by omega⟩, p1, b1, by omega, by omega, h1.2, by omega⟩, ?_, ?_⟩
  · rw [ln]
    exact endL_join _ 1 1 _ _ (by rw [← List.drop_zero (l := one ++ other)]; exact a1) a2
  · rcases List.mem_append.mp hx with z | z
    · exact h1.1.2 x z
    · exact h2.1.2 x z
  · unfold sub'
    rw [b1, List.drop_zero, List.take_left]
  · unfold sub'
    rw [b2, List.drop_left, List.take_length]
/-- how many names stand for names -/
def cnN (X : List Nat) (S : SS) (x : Nat) : Nat := nbN S x - hvN X S x
def cnS (X : List Nat) (S : SS) : Nat := sJ (cnN X S) 8
theorem cn_hv (X : List Nat) (S : SS) : cnS X S + sJ (hvN X S) 8 = nbS S := by
  unfold cnS nbS
  rw [← sJ_plus]
  refine sJ_congr (fun i _ => ?_)
  have := hvN_le X S i
  show nbN S i - hvN X S i + hvN X S i = nbN S i
  omega
theorem cn_le (X : List Nat) (S : SS) : cnS X S ≤ 8 := by
  have h : cnS X S ≤ sJ (fun _ => 1) 8 := sJ_le (fun i _ => by
    show nbN S i - hvN X S i ≤ 1
    unfold nbN
    split <;> omega)
  rw [sJ_1] at h
  exact h
def H1 (c : Nat) : Nat := [1821, 1335, 890, 606, 444, 296, 201, 147, 147].getD c 0
def H0 (c : Nat) : Nat := [1456, 1092, 728, 484, 363, 242, 160, 120, 120].getD c 0
def Hchk (g h : Nat → Nat) : Bool := (List.range 9).all fun c => (List.range 20).all fun R => !(decide (3 * R + 3 * c ≤ 59)) || decide (R * g (59 - 3 * R - 3 * c) ≤ h c)
set_option maxRecDepth 100000 in
theorem H1_chk : Hchk g1 H1 = true := by decide +kernel
set_option maxRecDepth 100000 in
theorem H0_chk : Hchk g0 H0 = true := by decide +kernel
theorem Hchk_le {g h : Nat → Nat} (e : Hchk g h = true) {c R : Nat} (hc : c < 9) (hR : 3 * R + 3 * c ≤ 59) : R * g (59 - 3 * R - 3 * c) ≤ h c := by
  have k := List.all_eq_true.mp (List.all_eq_true.mp e c (List.mem_range.mpr hc)) R (List.mem_range.mpr (by omega))
  rcases Bool.or_eq_true_iff.mp k with k | k
  · rw [decide_eq_true hR] at k
    exact absurd k (by decide)
  · exact of_decide_eq_true k
theorem sum_le (f : Nat → Nat) (B : Nat) : ∀ rs : List Nat, (∀ t ∈ rs, f t ≤ B) → (rs.map f).sum ≤ rs.length * B
  | [], _ => by simp
  | t :: rs, h => by
    rw [List.map_cons, List.sum_cons, List.length_cons, Nat.add_mul, Nat.one_mul]
    have := sum_le f B rs (fun x hx => h x (List.mem_cons_of_mem _ hx))
    have := h t List.mem_cons_self
    omega
/-- at the end of a run that succeeded -/
theorem end_ok {X : List Nat} {n1 : Nat} (hY : BY X n1) {S : SS} {dn : PL2} {rp : Nat → Nat} {K R c1 c0 : Nat} {rs : List Nat} (I : Ins X n1 S dn (0, n1) [] rp (ga X 0) 0 K R c1 c0 rs) (hA : ∀ i, i < ga X 0 → Ap X S dn (ko X 0 i) (ko X n1 i)) : c1 ≤ 31 + H1 (cnS X S) ∧ c0 ≤ 31 + H0 (cnS X S) := by
  have hX := hY.1
  have hpop := pop_ok I.1 hA
  have hga0 := I.root
  obtain ⟨t1, t2, t3, t4⟩ := I.hd
  obtain ⟨w1, hw1, hb1⟩ := I.w hY (b := 1) (by decide)
  obtain ⟨w0, hw0, hb0⟩ := I.w hY (b := 0) (by decide)
  have hc := cn_hv X S
  have hc9 := cn_le X S
  obtain ⟨-, i2, i3, i4, i5, i6, ⟨po1, po2⟩, ⟨k1, k2, k3, k4, k5, k6⟩⟩ := I
  obtain ⟨a1, a2, a3, a4, a5, a6, a7⟩ := hpop
  have hTy : Ty X n1 S ((0, n1) :: dn) ((0, n1) :: dn ++ []) := by
    intro q hq
    rcases List.mem_cons.mp hq with z | z
    · exact Or.inr (Or.inl z)
    · rcases i2 q z with h | h | ⟨y, hy, i, h1, h2⟩ | ⟨i, h1, h2⟩
      · exact Or.inl h
      · exact Or.inr (Or.inl h)
      · refine Or.inr (Or.inr ⟨y, ?_, i, h1, h2⟩)
        rw [List.append_nil] at hy ⊢
        exact List.mem_cons_of_mem _ hy
      · exact Or.inr (Or.inr ⟨(0, n1), List.mem_append_left _ List.mem_cons_self, i, h1, h2⟩)
  have bound : ∀ b w g, b ≤ 1 → VW X S b w → (∀ x, S x = none → w x = b) → Gp g b → gmon g = true → ∀ t ∈ rs, 3 * R + 3 * cnS X S ≤ 59 ∧ uP X b w t ≤ g (59 - 3 * R - 3 * cnS X S) := by
    intro b w gg hb hw hbw hg1 hg2 t ht
    obtain ⟨r1, r2, ⟨x, q, r3, r4⟩, r5⟩ := k4 t ht
    have H : LVH X n1 S ((0, n1) :: dn) [] rp b w := ⟨hY, a1, a3, a4, hTy, hw, hbw, fun x y => (a5 x y).mp, a6, a7⟩
    have hbl : b < uP X b w t := by
      have := uP_kid hX (b := b) (w := w) r1 r2
      have := uP_ge hX hb hw.1 (ko_mono hX r1 r2).2.2.2.2
      omega
    have e1 := r4 b w hw
    rcases hv_ex hX a1 hw hbw (x + 1) x (Nat.lt_succ_self _) with h | ⟨y, q', y1, y2, y3⟩
    · omega
    · have hA := AA_le H (v := uP X b w t) (fun q hq => by cases hq) (r5 b w hw)
      have := lv_ok H hb hg1 _ (uP X b w t) y q' (Nat.le_refl _) y1 y2 (by omega) (fun q hq => by cases hq) (by omega)
      exact ⟨by omega, Nat.le_trans this (gmon_to hg2 (by omega) (by omega))⟩
  have fin9 : ∀ b w g h c, b ≤ 1 → VW X S b w → (∀ x, S x = none → w x = b) → Gp g b → gmon g = true → Hchk g h = true → c ≤ K + (rs.map (uP X b w)).sum → c ≤ 31 + h (cnS X S) := by
    intro b w gg hh c hb hw hbw hg1 hg2 hk hcc
    have B := bound b w gg hb hw hbw hg1 hg2
    cases hrs : rs with
    | nil =>
      rw [hrs] at hcc
      simp only [List.map_nil, List.sum_nil] at hcc
      omega
    | cons t rs' =>
      have h59 := (B t (by rw [hrs]; exact List.mem_cons_self)).1
      have s1 := sum_le (uP X b w) (gg (59 - 3 * R - 3 * cnS X S)) rs (fun t ht => (B t ht).2)
      rw [k3] at s1
      have s2 := Hchk_le hk (show cnS X S < 9 by omega) h59
      omega
  exact ⟨fin9 1 w1 g1 H1 c1 (Nat.le_refl _) hw1 hb1 g1_p g1_mon H1_chk (k5 w1 hw1), fin9 0 w0 g0 H0 c0 (by decide) hw0 hb0 g0_p g0_mon H0_chk (k6 w0 hw0)⟩
end U69bd14
section U70bd15
/-! the bound on the steps, 15: what two terms cost at most; what is told of a name in the end -/
/-- how the steps of two terms end: what stands for the names, cells, slots -/
def GoE (one other : List Nat) (G : GS) : Prop := G.2.2.1 ≤ 2 ∧ G.2.2.2.1 ≤ 8420 ∧ G.2.2.2.2 ≤ 97110 ∧
  (G.2.2.1 = 0 → ∃ S, G.1 = smO (one ++ other) S ∧ S1 (one ++ other) S ∧ Ac (one ++ other) S ∧ G.2.2.2.1 ≤ 62 + 2 * H1 (cnS (one ++ other) S) ∧ G.2.2.2.2 ≤ 30 * (31 + H0 (cnS (one ++ other) S)))
theorem none8_smO (X : List Nat) : none8 = smO X sN := rfl
theorem Hc_le (c : Nat) : H1 c ≤ 4000 ∧ H0 c ≤ 3000 := by
  rcases Nat.lt_or_ge c 9 with h | h
  · revert c
    decide
  · unfold H1 H0
    rw [List.getD_eq_getElem?_getD, List.getD_eq_getElem?_getD, List.getElem?_eq_none (by simpa using h), List.getElem?_eq_none (by simpa using h)]
    exact ⟨Nat.zero_le _, Nat.zero_le _⟩
set_option maxHeartbeats 4000000 in
theorem goE {one other : List Nat} (h1 : TW one ∧ one.length ≤ 16) (h2 : TW other ∧ other.length ≤ 16) : ∃ G : GS, goF 40 one other none8 0 0 = some G ∧ GoE one other G := by
  obtain ⟨hY, s1, s2⟩ := BY_of h1 h2
  generalize hn1 : one.length = n1 at hY s2
  have hX := hY.1
  have y := hY.2
  have h0N : 0 < (one ++ other).length := by omega
  have h1N : n1 < (one ++ other).length := by omega
  generalize hXX : one ++ other = X at *
  suffices hh : ∃ G : GS, goF 40 (sub' X 0) (sub' X n1) (smO X sN) 0 0 = some G ∧ GoE one other G by
    rw [s1, s2, ← none8_smO X] at hh
    exact hh
  have hS : S1 X sN := (Inv_0 X).1
  have d0 : dp X sN 0 = 0 := dp_free (fun _ => rfl)
  have d1 : dp X sN n1 = n1 := dp_free (fun _ => rfl)
  have e0 := (dp_ok hX hS h0N).1
  have e1 := (dp_ok hX hS h1N).1
  rw [d0] at e0
  rw [d1] at e1
  have g0 := goF_0 39 (sub' X 0) (sub' X n1) (smO X sN) 0 (e0.trans (congrArg some (sub_cons hX h0N))) (e1.trans (congrArg some (sub_cons hX h1N)))
  rw [← sub_cons hX h0N, ← sub_cons hX h1N] at g0
  have simple : ∀ S m, Inv X S [] [] (fun x => x) → goF 40 (sub' X 0) (sub' X n1) (smO X sN) 0 0 = some (smO X S, m, 0, 0, 0) → ∃ G : GS, goF 40 (sub' X 0) (sub' X n1) (smO X sN) 0 0 = some G ∧ GoE one other G := fun S m I hr =>
    ⟨_, hr, Nat.zero_le _, Nat.zero_le _, Nat.zero_le _, fun _ => by
      rw [hXX]
      exact ⟨S, rfl, I.1, I.2.1, Nat.zero_le _, Nat.zero_le _⟩⟩
  have fail : ∀ w, 0 < w → w ≤ 2 → ∀ sm m, goF 40 (sub' X 0) (sub' X n1) (smO X sN) 0 0 = some (sm, m, w, 0, 0) → ∃ G : GS, goF 40 (sub' X 0) (sub' X n1) (smO X sN) 0 0 = some G ∧ GoE one other G := fun w w1 w2 sm m hr =>
    ⟨_, hr, w2, Nat.zero_le _, Nat.zero_le _, fun z => by
      have : w = 0 := z
      omega⟩
  have I0 := Inv_0 X
  by_cases hx : gl X 0 < 10
  · rw [if_pos hx] at g0
    have x8 := gl_8 hX h0N hx
    by_cases hy : gl X n1 < 10
    · rw [if_pos hy] at g0
      have y8 := gl_8 hX h1N hy
      by_cases e : gl X 0 = gl X n1
      · rw [if_pos e] at g0
        exact simple _ _ I0 g0
      · rw [if_neg e] at g0
        by_cases l : gl X 0 < gl X n1
        · rw [if_pos l, show max (gl X 0) (gl X n1) = gl X n1 by omega, smO_set X sN y8] at g0
          exact simple _ _ (I0.bindN hX y8 rfl h0N l rfl) g0
        · rw [if_neg l, show max (gl X 0) (gl X n1) = gl X 0 by omega, smO_set X sN x8] at g0
          exact simple _ _ (I0.bindN hX x8 rfl h1N (by omega) rfl) g0
    · rw [if_neg hy] at g0
      unfold bindF at g0
      cases hw : isWi (smO X sN) (gl X 0) (sub' X n1) with
      | true =>
        rw [hw, if_pos rfl] at g0
        exact fail 2 (by omega) (by omega) _ _ g0
      | false =>
        rw [hw, if_neg (by decide), smO_set X sN x8] at g0
        exact simple _ _ (I0.bindW hY x8 rfl h1N (by omega) hw) g0
  · rw [if_neg hx] at g0
    by_cases hy : gl X n1 < 10
    · rw [if_pos hy] at g0
      have y8 := gl_8 hX h1N hy
      unfold bindF at g0
      cases hw : isWi (smO X sN) (gl X n1) (sub' X 0) with
      | true =>
        rw [hw, if_pos rfl] at g0
        exact fail 2 (by omega) (by omega) _ _ g0
      | false =>
        rw [hw, if_neg (by decide), smO_set X sN y8] at g0
        exact simple _ _ (I0.bindW hY y8 rfl h0N (by omega) hw) g0
    · rw [if_neg hy] at g0
      by_cases e : gl X 0 = gl X n1
      · rw [if_pos e] at g0
        rcases Nat.eq_zero_or_pos (ga X 0) with z | z
        · rw [show pF (gl X 0) = 0 from z] at g0
          exact simple _ _ I0 g0
        · have hne : (fun x : Nat => x) 0 ≠ (fun x : Nat => x) n1 := by
            show (0 : Nat) ≠ n1
            omega
          obtain ⟨hI, hW⟩ := un_ok I0 h0N h1N e z hne
          have hsum := ga_sum hY
          have hW0 : Wt X (fun x => x) = 2 * sJ (ga X) X.length := by
            rw [← sJ_two]
            exact sJ_congr (fun c _ => if_pos rfl)
          have h32 := hX.2.2
          have nb0 : nbS sN = 0 := rfl
          have J : Ins X n1 sN [] (0, n1) [] (un (fun x => x) 0 n1) 0 (0 + ga X 0) 1 0 1 1 [] := by
            refine ⟨hI, fun q h => (by cases h), fun g => ?_, List.mem_cons_self, by simp, fun b w _ q h => (by cases h), ⟨by omega, by omega⟩, ?_⟩
            · have g' : Gn ([] : PL2) 0 n1 := g
              exact hne ((I0.2.2.2.2.1 0 n1).mpr g')
            · exact ⟨by show 1 ≤ 1 + 0; omega, by show 1 ≤ 1 + 0; omega, rfl, fun t h => (by cases h), fun w _ => by simp, fun w _ => by simp⟩
          obtain ⟨sm', m', w', C, n, run, res⟩ := lp_ok hY (go_ok hY 39) (ga X 0) 0 sN [] 0 n1 [] _ 0 1 0 1 1 [] 1 J (by omega) (by show 34 ≤ 39 + 1; omega) (fun i hi => absurd hi (Nat.not_lt_zero i))
          have kk1 : ko X 0 0 = 1 := rfl
          have kk2 : ko X n1 0 = n1 + 1 := rfl
          rw [kk1, kk2, show 1 - 0 = 1 by omega, show n1 + 1 - n1 = 1 by omega] at run
          have g1 := g0.trans run
          refine ⟨_, g1, ?_⟩
          rcases res with ⟨rfl, S', dn', rp', K', R', x1, x0, rs', rfl, hm, I2, hU, hD, hN, hA, hC, hn⟩ | ⟨v0, v2, W, K', R', x1, x0, f1, f2, f3, f4, f5, f6⟩
          · obtain ⟨b1, b0⟩ := end_ok hY I2 hA
            have hc := Hc_le (cnS X S')
            refine ⟨Nat.zero_le _, ?_, ?_, fun _ => ?_⟩
            · show C ≤ 8420
              omega
            · show n ≤ 97110
              omega
            · rw [hXX]
              refine ⟨S', rfl, I2.1.1, I2.1.2.1, ?_, ?_⟩
              · show C ≤ _
                omega
              · show n ≤ _
                omega
          · have q1 := Gfin_le G1_fin (show R' < 22 by omega)
            have q0 := Gfin_le G0_fin (show R' < 22 by omega)
            refine ⟨v2, ?_, ?_, fun zz => ?_⟩
            · show C ≤ 8420
              omega
            · show n ≤ 97110
              omega
            · have : w' = 0 := zz
              omega
      · rw [if_neg e] at g0
        exact fail 1 (by omega) (by omega) _ _ g0
end U70bd15
section U71bd16
/-! what is told of a name in the end: how many puttings-in -/
theorem sJ_mono (f : Nat → Nat) {a b : Nat} (h : a ≤ b) : sJ f a ≤ sJ f b := by
  rw [show b = a + (b - a) by omega, sJ_add]
  omega
def hcS (X : List Nat) (S : SS) (x : Nat) : Nat := sJ (cnN X S) (x + 1)
def ptS (X : List Nat) (S : SS) (x : Nat) : Nat := if x < 10 then (match S x with
  | some _ => hcS X S x + 1
  | none => 0) else 0
theorem smO_inv {X : List Nat} {S : SS} {x : Nat} {t : List Nat} (h : (smO X S).getD x none = some t) : ∃ q, x < 8 ∧ S x = some q ∧ t = sub' X q := by
  rcases Nat.lt_or_ge x 8 with c | c
  · rw [smO_get X S c] at h
    cases hs : S x with
    | none => rw [hs] at h; cases h
    | some q => rw [hs] at h; cases h; exact ⟨q, c, rfl, rfl⟩
  · rw [List.getD_eq_getElem?_getD, List.getElem?_eq_none (by simpa [smO] using c)] at h
    cases h
theorem ptS_le {X : List Nat} {S : SS} (hS : S1 X S) (x : Nat) : ptS X S x ≤ cnS X S + 1 := by
  unfold ptS
  split
  · split
    · rename_i q hq
      have h8 := (hS x q hq).1
      have := sJ_mono (cnN X S) (show x + 1 ≤ 8 by omega)
      unfold hcS cnS
      omega
    · exact Nat.zero_le _
  · exact Nat.zero_le _
theorem ptS_lt {X : List Nat} {S : SS} (hS : S1 X S) {x q : Nat} (hx : x < 10) (hq : S x = some q) : ptS X S (gl X q) + 1 ≤ ptS X S x := by
  have e : ptS X S x = hcS X S x + 1 := by unfold ptS; rw [if_pos hx, hq]
  rw [e]
  unfold ptS
  split
  · rename_i hg
    split
    · have h1 := (hS x q hq).2.2 hg
      have h2 := sJ_mono (cnN X S) (show gl X q + 1 ≤ x by omega)
      have h3 : cnN X S x = 1 := by
        unfold cnN nbN hvN
        rw [hq]
        dsimp only
        rw [if_neg (by omega)]
      have h4 : hcS X S x = sJ (cnN X S) x + cnN X S x := rfl
      have h5 : hcS X S (gl X q) = sJ (cnN X S) (gl X q + 1) := rfl
      omega
    · omega
  · omega
theorem wh_hd {X : List Nat} (hX : BX X) {q : Nat} (hq : q < X.length) {xs : List Nat} {a : Nat} (ha : a < xs.length) : (xs.take a ++ sub' X q ++ xs.drop (a + 1)).getD a 10 = gl X q := by
  rw [List.getD_eq_getElem?_getD, List.append_assoc, List.getElem?_append_right (by rw [List.length_take]; omega), List.length_take, Nat.min_eq_left (by omega), Nat.sub_self, sub_cons hX hq]
  rfl
theorem wh_ok {X : List Nat} (hX : BX X) {S : SS} (hS : S1 X S) : ∀ (d a : Nat) (xs : List Nat) (f : Nat), a + d = 16 → d * (cnS X S + 2) + 1 ≤ f → ∃ r C n, whF f (smO X S) xs a = some (r, C, n) ∧ C ≤ 4 * (d * (cnS X S + 1)) ∧ n ≤ 80 * (d * (cnS X S + 1)) := by
  intro d
  induction d with
  | zero =>
    intro a xs f ha hf
    obtain ⟨f', rfl⟩ : ∃ f', f = f' + 1 := ⟨f - 1, by omega⟩
    refine ⟨xs, 0, 0, ?_, Nat.zero_le _, Nat.zero_le _⟩
    show (if a < xs.length ∧ xs.length ≤ 16 then _ else _) = _
    rw [if_neg (by omega)]
  | succ d ih =>
    have inner : ∀ (s a : Nat) (xs : List Nat) (f : Nat), a + (d + 1) = 16 → ptS X S (xs.getD a 10) ≤ s → d * (cnS X S + 2) + s + 2 ≤ f → ∃ r C n, whF f (smO X S) xs a = some (r, C, n) ∧ C ≤ 4 * (d * (cnS X S + 1) + s) ∧ n ≤ 80 * (d * (cnS X S + 1) + s) := by
      intro s
      induction s with
      | zero =>
        intro a xs f ha hp hf
        obtain ⟨f', rfl⟩ : ∃ f', f = f' + 1 := ⟨f - 1, by omega⟩
        by_cases c : a < xs.length ∧ xs.length ≤ 16
        · have e : whF (f' + 1) (smO X S) xs a = whF f' (smO X S) xs (a + 1) := by
            show (if a < xs.length ∧ xs.length ≤ 16 then _ else _) = _
            rw [if_pos c]
            have hst : stAt (smO X S) xs a = none := by
              unfold stAt
              split
              · rename_i h10
                cases hg : (smO X S).getD (xs.getD a 10) none with
                | none => rfl
                | some t =>
                  obtain ⟨q, h1, h2, h3⟩ := smO_inv hg
                  have := ptS_lt hS h10 h2
                  omega
              · rfl
            rw [hst]
          obtain ⟨r, C, n, h1, h2, h3⟩ := ih (a + 1) xs f' (by omega) (by omega)
          exact ⟨r, C, n, e.trans h1, by omega, by omega⟩
        · refine ⟨xs, 0, 0, ?_, Nat.zero_le _, Nat.zero_le _⟩
          show (if a < xs.length ∧ xs.length ≤ 16 then _ else _) = _
          rw [if_neg c]
      | succ s ihs =>
        intro a xs f ha hp hf
        obtain ⟨f', rfl⟩ : ∃ f', f = f' + 1 := ⟨f - 1, by omega⟩
        by_cases c : a < xs.length ∧ xs.length ≤ 16
        · cases hst : stAt (smO X S) xs a with
          | none =>
            have e : whF (f' + 1) (smO X S) xs a = whF f' (smO X S) xs (a + 1) := by
              show (if a < xs.length ∧ xs.length ≤ 16 then _ else _) = _
              rw [if_pos c, hst]
            obtain ⟨r, C, n, h1, h2, h3⟩ := ih (a + 1) xs f' (by omega) (by omega)
            exact ⟨r, C, n, e.trans h1, by omega, by omega⟩
          | some t =>
            have hst' := hst
            unfold stAt at hst'
            split at hst'
            · rename_i h10
              obtain ⟨q, h1, h2, rfl⟩ := smO_inv hst'
              have hq := (hS _ _ h2).2.1
              have hl := ptS_lt hS h10 h2
              obtain ⟨r, C, n, k1, k2, k3⟩ := ihs a (xs.take a ++ sub' X q ++ xs.drop (a + 1)) f' ha (by rw [wh_hd hX hq c.1]; omega) (by omega)
              refine ⟨r, 4 + C, 80 + n, ?_, by omega, by omega⟩
              show (if a < xs.length ∧ xs.length ≤ 16 then _ else _) = _
              rw [if_pos c, hst]
              dsimp only
              rw [k1]
            · cases hst'
        · refine ⟨xs, 0, 0, ?_, Nat.zero_le _, Nat.zero_le _⟩
          show (if a < xs.length ∧ xs.length ≤ 16 then _ else _) = _
          rw [if_neg c]
    intro a xs f ha hf
    have h1 : (d + 1) * (cnS X S + 2) = d * (cnS X S + 2) + (cnS X S + 2) := by rw [Nat.add_mul, Nat.one_mul]
    have h2 : (d + 1) * (cnS X S + 1) = d * (cnS X S + 1) + (cnS X S + 1) := by rw [Nat.add_mul, Nat.one_mul]
    rw [h2]
    exact inner (cnS X S + 1) a xs f ha (ptS_le hS _) (by omega)
theorem whE {X : List Nat} (hX : BX X) {S : SS} (hS : S1 X S) (k : Nat) : ∃ r C n, whF 161 (smO X S) [k] 0 = some (r, C, n) ∧ C ≤ 64 * (cnS X S + 1) ∧ n ≤ 1280 * (cnS X S + 1) := by
  have hc := cn_le X S
  obtain ⟨r, C, n, h1, h2, h3⟩ := wh_ok hX hS 16 0 [k] 161 rfl (by omega)
  exact ⟨r, C, n, h1, by omega, by omega⟩
end U71bd16
section U72cl1
/-! the reference's classes, 1: the object; headed, number, come -/
/-- the rows of the terms, none of them the arrays O and Q -/
def CR (h : AH) (T O Q : Nat) (ts : List (List Nat)) : Prop := ∃ as : List Nat, as.length = ts.length ∧ h T = some (105, filR as 32) ∧ ∀ (k : Nat) (r : List Nat), ts[k]? = some r → ∃ a, as[k]? = some a ∧ a ≠ O ∧ a ≠ Q ∧ h a = some (IA r)
def CS (h : AH) (o8 T O Q : Nat) (ts : List (List Nat)) (of' pt : List Nat) (can : Bool) : Prop :=
  h o8 = some (10, [.ref T, .ref O, .ref Q, vI ts.length, .int (bI can)]) ∧ CR h T O Q ts ∧ h O = some (IA of') ∧ h Q = some (IA pt) ∧ O ≠ Q ∧ of'.length = 32 ∧ pt.length = 96 ∧ ts.length ≤ 32 ∧ (∀ t ∈ ts, TW t ∧ t.length ≤ 16) ∧ (∀ x ∈ of', x < 32) ∧ (∀ x ∈ pt, x < 32)
def Fc (o8 T O Q : Nat) (h h' : AH) : Prop := ∀ (b : Nat) (c : AC), b ≠ o8 → b ≠ T → b ≠ O → b ≠ Q → h b = some c → h' b = some c
theorem Fc.rf {o8 T O Q : Nat} (h : AH) : Fc o8 T O Q h h := fun _ _ _ _ _ _ e => e
theorem Fc.trans {o8 T O Q : Nat} {h h1 h2 : AH} (a : Fc o8 T O Q h h1) (b : Fc o8 T O Q h1 h2) : Fc o8 T O Q h h2 := fun x c q1 q2 q3 q4 e => b x c q1 q2 q3 q4 (a x c q1 q2 q3 q4 e)
theorem Fc.ext {o8 T O Q : Nat} {h h' : AH} (a : Ext h h') : Fc o8 T O Q h h' := fun x c _ _ _ _ e => a x c e
theorem Fc.set {o8 T O Q : Nat} {h h' : AH} (a : Fc o8 T O Q h h') {q : Nat} (hq : q = o8 ∨ q = T ∨ q = O ∨ q = Q) (c : AC) : Fc o8 T O Q h (hup h' q c) := fun x c' q1 q2 q3 q4 e => by
  rw [hup_ne _ _ (by rcases hq with rfl | rfl | rfl | rfl <;> assumption)]
  exact a x c' q1 q2 q3 q4 e
section CSs
variable {h : AH} {o8 T O Q : Nat} {ts : List (List Nat)} {of' pt : List Nat} {can : Bool}
theorem CR.ext {h' : AH} (H : CR h T O Q ts) (E : Ext h h') : CR h' T O Q ts := by
  obtain ⟨as, h1, h2, h3⟩ := H
  refine ⟨as, h1, E _ _ h2, fun k r hk => ?_⟩
  obtain ⟨a, a1, a2, a3, a4⟩ := h3 k r hk
  exact ⟨a, a1, a2, a3, E _ _ a4⟩
theorem CS.ext {h' : AH} (M : CS h o8 T O Q ts of' pt can) (E : Ext h h') : CS h' o8 T O Q ts of' pt can := by
  obtain ⟨m1, m2, m3, m4, m5⟩ := M
  exact ⟨E _ _ m1, m2.ext E, E _ _ m3, E _ _ m4, m5⟩
theorem CS.kinds (M : CS h o8 T O Q ts of' pt can) : o8 ≠ T ∧ o8 ≠ O ∧ o8 ≠ Q ∧ T ≠ O ∧ T ≠ Q := by
  obtain ⟨m1, ⟨as, _, m2, _⟩, m3, m4, _⟩ := M
  exact ⟨k_ne m1 m2 (by decide), k_ne m1 m3 (by decide), k_ne m1 m4 (by decide), k_ne m2 m3 (by decide), k_ne m2 m4 (by decide)⟩
theorem CS.term (M : CS h o8 T O Q ts of' pt can) {k : Nat} (hk : k < ts.length) : ∃ (vs : List Value) (a : Nat) (r : List Nat) (x : Nat), h T = some (105, vs) ∧ vs[k]? = some (.ref a) ∧ ts[k]? = some r ∧ h a = some (IA r) ∧ TW r ∧ r.length ≤ 16 ∧ r[0]? = some x ∧ okL x ∧ (ts.getD k []).getD 0 0 = x ∧ ts.getD k [] = r := by
  obtain ⟨m1, ⟨as, a1, a2, a3⟩, m3, m4, m5, m6, m7, m8, m9, -⟩ := M
  obtain ⟨r, hr⟩ : ∃ r, ts[k]? = some r := ⟨ts[k], by simp [hk]⟩
  obtain ⟨a, e1, e2, e3, e4⟩ := a3 k r hr
  obtain ⟨w1, w2⟩ := m9 r (List.mem_of_getElem? hr)
  have hp := w1.pos
  obtain ⟨x, hx⟩ : ∃ x, r[0]? = some x := ⟨r[0], by simp [hp]⟩
  have e5 : ts.getD k [] = r := by rw [List.getD_eq_getElem?_getD, hr]; rfl
  exact ⟨_, a, r, x, a2, filR_get e1, hr, e4, w1, w2, hx, w1.2 x (List.mem_of_getElem? hx), by rw [e5, List.getD_eq_getElem?_getD, hx]; rfl, e5⟩
theorem CS.ofx (M : CS h o8 T O Q ts of' pt can) {k : Nat} (hk : k < 32) : ∃ x, of'[k]? = some x ∧ x < 32 ∧ of'.getD k 0 = x := by
  obtain ⟨m1, m2, m3, m4, m5, m6, m7, m8, m9, m10, -⟩ := M
  obtain ⟨y, e1, e2, e3⟩ := getD_mem (xs := of') (j := k) (by omega)
  exact ⟨y, e1, m10 y e3, e2⟩
theorem CS.ptx (M : CS h o8 T O Q ts of' pt can) {k : Nat} (hk : k < 96) : ∃ x, pt[k]? = some x ∧ x < 32 ∧ pt.getD k 0 = x := by
  obtain ⟨m1, m2, m3, m4, m5, m6, m7, m8, m9, m10, m11⟩ := M
  obtain ⟨y, e1, e2, e3⟩ := getD_mem (xs := pt) (j := k) (by omega)
  exact ⟨y, e1, m11 y e3, e2⟩
end CSs
/-- the first letter of a term -/
def hdT (ts : List (List Nat)) (k : Nat) : Nat := (ts.getD k []).getD 0 0
def hdF (ts : List (List Nat)) (of' : List Nat) (its : Nat) : Nat → Nat → Option Nat
  | 0, _ => none
  | n + 1, k => if of'.getD k 0 = its ∧ 10 ≤ hdT ts k then some k else hdF ts of' its n (k + 1)
def headF (ts : List (List Nat)) (of' : List Nat) (its : Nat) : Option Nat := hdF ts of' its ts.length 0
theorem hdF_ok {ts : List (List Nat)} {of' : List Nat} {its : Nat} : ∀ (n k a : Nat), hdF ts of' its n k = some a → k ≤ a ∧ a < k + n ∧ of'.getD a 0 = its ∧ 10 ≤ hdT ts a
  | 0, k, a, h => by cases h
  | n + 1, k, a, h => by
    unfold hdF at h
    split at h
    · rename_i c
      cases h
      exact ⟨Nat.le_refl _, by omega, c⟩
    · obtain ⟨h1, h2, h3⟩ := hdF_ok n (k + 1) a h
      exact ⟨by omega, by omega, h3⟩
theorem hdF_no {ts : List (List Nat)} {of' : List Nat} {its : Nat} : ∀ (n k : Nat), hdF ts of' its n k = none → ∀ i, k ≤ i → i < k + n → of'.getD i 0 = its → hdT ts i < 10
  | 0, k, h, i, h1, h2, h3 => by omega
  | n + 1, k, h, i, h1, h2, h3 => by
    unfold hdF at h
    split at h
    · cases h
    · rename_i c
      rcases Nat.eq_or_lt_of_le h1 with q | q
      · subst q
        rcases Nat.lt_or_ge (hdT ts k) 10 with z | z
        · exact z
        · exact absurd ⟨h3, z⟩ c
      · exact hdF_no n (k + 1) h i (by omega) (by omega) h3
theorem headF_ok {ts : List (List Nat)} {of' : List Nat} {its a : Nat} (h : headF ts of' its = some a) : a < ts.length ∧ of'.getD a 0 = its ∧ 10 ≤ hdT ts a := by
  obtain ⟨h1, h2, h3⟩ := hdF_ok _ _ _ h
  exact ⟨by omega, h3⟩
theorem headF_no {ts : List (List Nat)} {of' : List Nat} {its : Nat} (h : headF ts of' its = none) {i : Nat} (hi : i < ts.length) (e : of'.getD i 0 = its) : hdT ts i < 10 := hdF_no _ _ h i (Nat.zero_le _) (by omega) e
section M72
variable {la : Launch} {D : va_G} {cA : Nat → ClassId} {B0 pa : Nat} {o8 T O Q : Nat} {ts : List (List Nat)} {of' pt : List Nat} {can : Bool}
set_option maxHeartbeats 8000000 in
theorem c_headed (h : AH) (M : CS h o8 T O Q ts of' pt can) {its : Nat} (hits : its < 32) : CT la D cA B0 pa yX8_headed cX8_headed 3 (some .int) (rmD 0 0 0) [.ref o8, vI its] h (fun v h' => v = some (vP (headF ts of' its)) ∧ h' = h) := by
  refine CT_of (by decide +kernel) (Nat.le_of_ble_eq_true rfl) ?_
  intro p e s m args below meth c X E hr hlk hnm
  have dk : ∀ {pc : Nat} {q : Instr × Nat}, lkd DX8_headed pc = some q → decode cX8_headed pc = .ok q := lkd_ok DX8_headed_ok
  have h32 : ts.length ≤ 32 := M.2.2.2.2.2.2.2.1
  have loop : ∀ (d k : Nat) (l : List (Nat × Value)), lsel l [2, 1, 0] = [(2, vI k), (1, vI its), (0, .ref o8)] → k + d = ts.length → hdF ts of' its d k = headF ts of' its → WR p la e (rmD 0 0 0) s m args below meth c D cA B0 3 (fun v h' => v = some (vP (headF ts of' its)) ∧ h' = h) 2 l [] h 0 0 := by
    intro d
    induction d with
    | zero =>
      intro k l hl hk hh
      refine WS.sel [2, 1, 0] hl ?_
      repeat refine fst1_ok X (dk rfl) rfl ?_
      refine getf_ok X flX8_35 (dk rfl) M.1 rfl ?_
      refine br_ok X (dk rfl) rfl (show ((7 : Nat) : Int) + 34 = ((41 : Nat) : Int) from rfl) (fun _ => ?_) (fun c1 => absurd ((nI_leI (by omega) (by omega)).mpr (by omega)) c1)
      refine fst1_ok X (dk rfl) rfl ?_
      exact reti_ok X hr hlk rfl (dk rfl) ⟨by rw [← hh]; rfl, rfl⟩ (Nat.le_refl _) (Nat.le_refl _)
    | succ d ih =>
      intro k l hl hk hh
      obtain ⟨vs, a, r, x, t1, t2, t3, t4, t5, t6, t7, t8, t9, t10⟩ := M.term (k := k) (by omega)
      obtain ⟨y, y1, y2, y3⟩ := M.ofx (k := k) (by omega)
      have hx18 := t8.lt
      have f2 : Value.int (nI k + Int32.ofInt 1) = vI (k + 1) := congrArg Value.int (by rw [nI_1', nI_add])
      have next9 : hdF ts of' its d (k + 1) = headF ts of' its → ∀ l : List (Nat × Value), lsel l [2, 1, 0] = [(2, vI k), (1, vI its), (0, .ref o8)] → WR p la e (rmD 0 0 0) s m args below meth c D cA B0 3 (fun v h' => v = some (vP (headF ts of' its)) ∧ h' = h) 35 l [] h 0 0 := by
        intro hh l hl
        refine WS.sel [2, 1, 0] hl ?_
        repeat refine fst1_ok X (dk rfl) rfl ?_
        refine br_ok X (dk rfl) rfl (show ((38 : Nat) : Int) + (-36) = ((2 : Nat) : Int) from rfl) (fun _ => ?_) (fun q => absurd trivial q)
        refine WS.sel (l' := [(2, vI (k + 1)), (1, vI its), (0, .ref o8)]) [2, 1, 0] (by rw [← f2]; rfl) ?_
        exact ih (k + 1) _ rfl (by omega) hh
      unfold hdF at hh
      refine WS.sel [2, 1, 0] hl ?_
      repeat refine fst1_ok X (dk rfl) rfl ?_
      refine getf_ok X flX8_35 (dk rfl) M.1 rfl ?_
      refine br_ok X (dk rfl) rfl (show ((7 : Nat) : Int) + 34 = ((41 : Nat) : Int) from rfl) (fun c1 => absurd (nI_ge' (by omega) (by omega) c1) (by omega)) (fun _ => ?_)
      refine fst1_ok X (dk rfl) rfl ?_
      refine getf_ok X flX8_17 (dk rfl) M.1 rfl ?_
      refine fst1_ok X (dk rfl) rfl ?_
      refine ald_ok X (Or.inl ⟨rfl, rfl⟩) (dk rfl) M.2.2.1 (inA_nI (by omega) (IA_get y1)) ?_
      refine fst1_ok X (dk rfl) rfl ?_
      refine br_ok X (dk rfl) rfl (show ((17 : Nat) : Int) + 18 = ((35 : Nat) : Int) from rfl) (fun c1 => ?_) (fun c1 => ?_)
      · rw [if_neg (fun z => c1 (by rw [← y3, z.1]))] at hh
        exact next9 hh _ rfl
      · have hy : y = its := (nI_eq (by omega) (by omega)).mp (Decidable.not_not.mp c1)
        refine fst1_ok X (dk rfl) rfl ?_
        refine getf_ok X flX8_11 (dk rfl) M.1 rfl ?_
        refine fst1_ok X (dk rfl) rfl ?_
        refine ld5_ok X (dk rfl) t1 t2 (by omega) ?_
        refine fst1_ok X (dk rfl) rfl ?_
        refine ald_ok X (Or.inl ⟨rfl, rfl⟩) (dk rfl) t4 (inA_nI (j := 0) (by omega) (IA_get t7)) ?_
        refine fst1_ok X (dk rfl) rfl ?_
        rw [nI_10]
        refine br_ok X (dk rfl) rfl (show ((30 : Nat) : Int) + 5 = ((35 : Nat) : Int) from rfl) (fun c2 => ?_) (fun c2 => ?_)
        · have : x < 10 := (nI_ltI (by omega) (by omega)).mp c2
          rw [if_neg (fun z => by have := z.2; unfold hdT at this; rw [t9] at this; omega)] at hh
          exact next9 hh _ rfl
        · have : 10 ≤ x := Nat.le_of_not_lt (fun z => c2 ((nI_ltI (by omega) (by omega)).mpr z))
          rw [if_pos ⟨by rw [y3, hy], by unfold hdT; rw [t9]; exact this⟩] at hh
          refine fst1_ok X (dk rfl) rfl ?_
          exact reti_ok X hr hlk rfl (dk rfl) ⟨by rw [← hh]; rfl, rfl⟩ (Nat.le_refl _) (Nat.le_refl _)
  iterate 2 refine fst1_ok X (dk rfl) rfl ?_
  exact loop ts.length 0 _ rfl (Nat.zero_add _) rfl
set_option maxHeartbeats 8000000 in
theorem c_number (h : AH) (M : CS h o8 T O Q ts of' pt can) {u pl j : Nat} {xs : List Nat} (hu : h u = some (IA xs)) (hx : TW xs ∧ xs.length ≤ 16) (hp : pl < xs.length) (hj : ts[j]? = some (sub' xs pl)) (hm : ∀ i, i < j → ts[i]? ≠ some (sub' xs pl)) : CT la D cA B0 pa yX8_number cX8_number 4 (some .int) (rmD 3 0 0) [.ref o8, .ref u, vI pl] h (fun v h' => v = some (vI j) ∧ h' = h) := by
  refine CT_of (by decide +kernel) (Nat.le_of_ble_eq_true rfl) ?_
  intro p e s m args below meth c X E hr hlk hnm
  have dk : ∀ {pc : Nat} {q : Instr × Nat}, lkd DX8_number pc = some q → decode cX8_number pc = .ok q := lkd_ok DX8_number_ok
  have h32 : ts.length ≤ 32 := M.2.2.2.2.2.2.2.1
  have hjl := (List.getElem?_eq_some_iff.mp hj).1
  obtain ⟨g1, g2, g3, g4, g5⟩ := sub_ok hx.1 hx.2 hp
  have loop : ∀ (d k : Nat) (l : List (Nat × Value)), lsel l [3, 2, 1, 0] = [(3, vI k), (2, vI pl), (1, .ref u), (0, .ref o8)] → k + d = j → WR p la e (rmD 3 0 0) s m args below meth c D cA B0 4 (fun v h' => v = some (vI j) ∧ h' = h) 2 l [] h 0 0 := by
    intro d
    induction d with
    | zero =>
      intro k l hl hk
      have hkj : k = j := by omega
      subst hkj
      obtain ⟨vs, a, r, x, t1, t2, t3, t4, t5, t6, t7, t8, t9, t10⟩ := M.term (k := k) hjl
      refine WS.sel [3, 2, 1, 0] hl ?_
      repeat refine fst1_ok X (dk rfl) rfl ?_
      refine getf_ok X flX8_11 (dk rfl) M.1 rfl ?_
      refine fst1_ok X (dk rfl) rfl ?_
      refine ld5_ok X (dk rfl) t1 t2 (by omega) ?_
      refine fst1_ok X (dk rfl) rfl ?_
      refine callSN_ok (av := [.ref u, vI pl, .ref a, vI 0]) (r := []) X E (c_isAt h (f := pl) (g := 0) hu t4 (by omega) (by omega) hx.1.lt t5.lt g1 (by rw [List.drop_zero]; exact t5.1)) lkX10_isAt mnX8_58 lsX10_isAt ⟨Nat.le_of_ble_eq_true rfl, Nat.le_of_ble_eq_true rfl⟩ ⟨Nat.le_of_ble_eq_true rfl, Nat.le_of_ble_eq_true rfl⟩ (Nat.le_of_ble_eq_true rfl) (dk rfl) ?_
      rintro v h2 ⟨rfl, rfl⟩
      cases t3.symm.trans hj
      rw [if_pos (by rw [List.drop_zero, List.take_length]; rfl)]
      refine br_ok X (dk rfl) rfl (show ((14 : Nat) : Int) + 9 = ((23 : Nat) : Int) from rfl) (fun _ => ?_) (fun c1 => absurd (by decide) c1)
      refine fst1_ok X (dk rfl) rfl ?_
      exact reti_ok X hr hlk rfl (dk rfl) ⟨rfl, rfl⟩ (Nat.le_refl _) (Nat.le_refl _)
    | succ d ih =>
      intro k l hl hk
      have f2 : Value.int (nI k + Int32.ofInt 1) = vI (k + 1) := congrArg Value.int (by rw [nI_1', nI_add])
      obtain ⟨vs, a, r, x, t1, t2, t3, t4, t5, t6, t7, t8, t9, t10⟩ := M.term (k := k) (by omega)
      refine WS.sel [3, 2, 1, 0] hl ?_
      repeat refine fst1_ok X (dk rfl) rfl ?_
      refine getf_ok X flX8_11 (dk rfl) M.1 rfl ?_
      refine fst1_ok X (dk rfl) rfl ?_
      refine ld5_ok X (dk rfl) t1 t2 (by omega) ?_
      refine fst1_ok X (dk rfl) rfl ?_
      refine callSN_ok (av := [.ref u, vI pl, .ref a, vI 0]) (r := []) X E (c_isAt h (f := pl) (g := 0) hu t4 (by omega) (by omega) hx.1.lt t5.lt g1 (by rw [List.drop_zero]; exact t5.1)) lkX10_isAt mnX8_58 lsX10_isAt ⟨Nat.le_of_ble_eq_true rfl, Nat.le_of_ble_eq_true rfl⟩ ⟨Nat.le_of_ble_eq_true rfl, Nat.le_of_ble_eq_true rfl⟩ (Nat.le_of_ble_eq_true rfl) (dk rfl) ?_
      rintro v h2 ⟨rfl, rfl⟩
      rw [if_neg (fun z => by
        rw [List.drop_zero, List.take_length] at z
        exact hm k (by omega) (t3.trans (congrArg some z.symm)))]
      refine br_ok X (dk rfl) rfl (show ((14 : Nat) : Int) + 9 = ((23 : Nat) : Int) from rfl) (fun c1 => absurd rfl c1) (fun _ => ?_)
      repeat refine fst1_ok X (dk rfl) rfl ?_
      refine br_ok X (dk rfl) rfl (show ((20 : Nat) : Int) + (-18) = ((2 : Nat) : Int) from rfl) (fun _ => ?_) (fun q => absurd trivial q)
      refine WS.sel (l' := [(3, vI (k + 1)), (2, vI pl), (1, .ref u), (0, .ref o8)]) [3, 2, 1, 0] (by rw [← f2]; rfl) ?_
      exact ih (k + 1) _ rfl (by omega)
  iterate 2 refine fst1_ok X (dk rfl) rfl ?_
  exact loop j 0 _ rfl (Nat.zero_add _)
end M72
end U72cl1
section U73cl2
/-! the reference's classes, 2: come, join -/
def comeT (ts : List (List Nat)) (t : List Nat) : List (List Nat) := if t ∈ ts then ts else ts ++ [t]
def comeO (ts : List (List Nat)) (of' : List Nat) (t : List Nat) : List Nat := if t ∈ ts then of' else of'.set ts.length ts.length
def relF (of' : List Nat) (a b : Nat) : Nat → List Nat
  | 0 => of'
  | k + 1 => if (relF of' a b k).getD k 0 = b then (relF of' a b k).set k a else relF of' a b k
def joinL (go : List Nat → Bool → Nat → Nat → Option (List Nat × Bool)) (pt : List Nat) (a b : Nat) : Nat → Nat → List Nat → Bool → Option (List Nat × Bool)
  | 0, _, of', can => some (of', can)
  | n + 1, j, of', can => match go of' can (pt.getD (3 * a + j) 0) (pt.getD (3 * b + j) 0) with
    | none => none
    | some (o1, c1) => joinL go pt a b n (j + 1) o1 c1
def joinF (ts : List (List Nat)) (pt : List Nat) : Nat → List Nat → Bool → Nat → Nat → Option (List Nat × Bool)
  | 0, _, _, _, _ => none
  | f + 1, of', can, one, other => if of'.getD one 0 = of'.getD other 0 ∨ can = false then some (of', can) else
    match headF ts of' (of'.getD one 0), headF ts of' (of'.getD other 0) with
    | some a, some b => if hdT ts a = hdT ts b then joinL (joinF ts pt f) pt a b (pF (hdT ts a)) 0 (relF of' (of'.getD one 0) (of'.getD other 0) ts.length) can else some (relF of' (of'.getD one 0) (of'.getD other 0) ts.length, false)
    | _, _ => some (relF of' (of'.getD one 0) (of'.getD other 0) ts.length, can)
def pI (o : Option Nat) : Int32 := match o with
  | some k => nI k
  | none => Int32.ofInt (-1)
theorem vP_pI (o : Option Nat) : vP o = .int (pI o) := by cases o <;> rfl
theorem relF_succ (of' : List Nat) (a b k : Nat) : relF of' a b (k + 1) = if (relF of' a b k).getD k 0 = b then (relF of' a b k).set k a else relF of' a b k := rfl
theorem nI_3' : Int32.ofInt 3 = nI 3 := by decide +kernel
section CS2
variable {h : AH} {o8 T O Q : Nat} {ts : List (List Nat)} {of' pt : List Nat} {can : Bool}
theorem CR.hup (H : CR h T O Q ts) {q : Nat} (hq : q = O ∨ q = Q ∨ ∃ k vs, h q = some (k, vs) ∧ k ≠ 100 ∧ q ≠ T) (hT : T ≠ q) (c : AC) : CR (hup h q c) T O Q ts := by
  obtain ⟨as, h1, h2, h3⟩ := H
  refine ⟨as, h1, by rw [hup_ne _ _ hT]; exact h2, fun k r hk => ?_⟩
  obtain ⟨a, a1, a2, a3, a4⟩ := h3 k r hk
  refine ⟨a, a1, a2, a3, ?_⟩
  rw [hup_ne _ _ (by
    rcases hq with rfl | rfl | ⟨k', vs, e1, e2, _⟩
    · exact a2
    · exact a3
    · exact k_ne a4 e1 (Ne.symm e2))]
  exact a4
theorem CS.setO (M : CS h o8 T O Q ts of' pt can) {k x : Nat} (hx : x < 32) : CS (hup h O (100, (of'.map vI).set k (vI x))) o8 T O Q ts (of'.set k x) pt can := by
  have K := M.kinds
  obtain ⟨m1, m2, m3, m4, m5, m6, m7, m8, m9, m10, m11⟩ := M
  refine ⟨by rw [hup_ne _ _ K.2.1]; exact m1, m2.hup (Or.inl rfl) K.2.2.2.1 _, by rw [hup_self, IA, List.map_set], by rw [hup_ne _ _ m5.symm]; exact m4, m5, by rw [List.length_set]; exact m6, m7, m8, m9, fun y hy => ?_, m11⟩
  rcases List.mem_or_eq_of_mem_set hy with z | z
  · exact m10 y z
  · rw [z]; exact hx
theorem CS.setQ (M : CS h o8 T O Q ts of' pt can) {k x : Nat} (hx : x < 32) : CS (hup h Q (100, (pt.map vI).set k (vI x))) o8 T O Q ts of' (pt.set k x) can := by
  have K := M.kinds
  obtain ⟨m1, m2, m3, m4, m5, m6, m7, m8, m9, m10, m11⟩ := M
  refine ⟨by rw [hup_ne _ _ K.2.2.1]; exact m1, m2.hup (Or.inr (Or.inl rfl)) K.2.2.2.2 _, by rw [hup_ne _ _ m5]; exact m3, by rw [hup_self, IA, List.map_set], m5, m6, by rw [List.length_set]; exact m7, m8, m9, m10, fun y hy => ?_⟩
  rcases List.mem_or_eq_of_mem_set hy with z | z
  · exact m11 y z
  · rw [z]; exact hx
theorem CS.setC (M : CS h o8 T O Q ts of' pt can) (b : Bool) : CS (hup h o8 (10, [.ref T, .ref O, .ref Q, vI ts.length, .int (bI b)])) o8 T O Q ts of' pt b := by
  have K := M.kinds
  obtain ⟨m1, m2, m3, m4, m5⟩ := M
  exact ⟨hup_self _ _ _, m2.hup (Or.inr (Or.inr ⟨_, _, m1, by decide, K.1⟩)) K.1.symm _, by rw [hup_ne _ _ K.2.1.symm]; exact m3, by rw [hup_ne _ _ K.2.2.1.symm]; exact m4, m5⟩
theorem CS.push (M : CS h o8 T O Q ts of' pt can) {u : Nat} {t : List Nat} (hu : h u = some (IA t)) (huO : u ≠ O) (huQ : u ≠ Q) (ht : TW t ∧ t.length ≤ 16) (hl : ts.length < 32) : ∃ vs, h T = some (105, vs) ∧ vs.length = 32 ∧
    CS (hup (hup (hup h T (105, vs.set ts.length (.ref u))) O (100, (of'.map vI).set ts.length (vI ts.length))) o8 (10, [.ref T, .ref O, .ref Q, vI (ts.length + 1), .int (bI can)])) o8 T O Q (ts ++ [t]) (of'.set ts.length ts.length) pt can := by
  have K := M.kinds
  obtain ⟨m1, ⟨as, a1, a2, a3⟩, m3, m4, m5, m6, m7, m8, m9, m10, m11⟩ := M
  refine ⟨_, a2, filR_len (by omega), by rw [hup_self, List.length_append]; rfl, ⟨as ++ [u], by rw [List.length_append, List.length_append, a1]; rfl, ?_, fun k r hk => ?_⟩, ?_, ?_, m5, by rw [List.length_set]; exact m6, m7, by rw [List.length_append]; show ts.length + 1 ≤ 32; omega, fun y hy => ?_, fun y hy => ?_, m11⟩
  · rw [hup_ne _ _ K.1.symm, hup_ne _ _ K.2.2.2.1, hup_self, ← a1, filR_set (by omega)]
  · have keep : ∀ a x, a ≠ O → h a = some (IA x) → (hup (hup (hup h T (105, (filR as 32).set ts.length (.ref u))) O (100, (of'.map vI).set ts.length (vI ts.length))) o8 (10, [.ref T, .ref O, .ref Q, vI (ts.length + 1), .int (bI can)])) a = some (IA x) := fun a x ha e => by
      rw [hup_ne _ _ (k_ne e m1 (by decide)), hup_ne _ _ ha, hup_ne _ _ (IA_ne e a2)]
      exact e
    rcases Nat.lt_or_ge k ts.length with z | z
    · rw [List.getElem?_append_left z] at hk
      obtain ⟨a, e1, e2, e3, e4⟩ := a3 k r hk
      exact ⟨a, by rw [List.getElem?_append_left (by omega)]; exact e1, e2, e3, keep a r e2 e4⟩
    · have hk2 : k = ts.length := by have := (List.getElem?_eq_some_iff.mp hk).1; rw [List.length_append, List.length_singleton] at this; omega
      rw [hk2, List.getElem?_concat_length] at hk
      cases hk
      exact ⟨u, by rw [hk2, ← a1]; exact List.getElem?_concat_length, huO, huQ, keep u t huO hu⟩
  · rw [hup_ne _ _ K.2.1.symm, hup_self, IA, List.map_set]
  · rw [hup_ne _ _ K.2.2.1.symm, hup_ne _ _ m5.symm, hup_ne _ _ K.2.2.2.2.symm]
    exact m4
  · rcases List.mem_append.mp hy with z | z
    · exact m9 y z
    · simp at z; rw [z]; exact ht
  · rcases List.mem_or_eq_of_mem_set hy with z | z
    · exact m10 y z
    · rw [z]; exact hl
theorem relF_lt {a b : Nat} (hO : ∀ x ∈ of', x < 32) (ha : a < 32) : ∀ k, ∀ x ∈ relF of' a b k, x < 32
  | 0 => hO
  | k + 1 => by
    unfold relF
    split
    · intro y hy
      rcases List.mem_or_eq_of_mem_set hy with z | z
      · exact relF_lt hO ha k y z
      · rw [z]; exact ha
    · exact relF_lt hO ha k
end CS2
section M73
variable {la : Launch} {D : va_G} {cA : Nat → ClassId} {B0 pa : Nat} {o8 T O Q : Nat} {ts : List (List Nat)} {of' pt : List Nat} {can : Bool}
set_option maxHeartbeats 8000000 in
theorem c_come (h : AH) (M : CS h o8 T O Q ts of' pt can) {u : Nat} {t : List Nat} (hu : h u = some (IA t)) (huO : u ≠ O) (huQ : u ≠ Q) (ht : TW t ∧ t.length ≤ 16) (hl : t ∉ ts → ts.length < 32) : CT la D cA B0 pa yX8_come cX8_come 3 none (rmD 3 0 0) [.ref o8, .ref u] h (fun v h' => v = none ∧ CS h' o8 T O Q (comeT ts t) (comeO ts of' t) pt can ∧ Fc o8 T O Q h h') := by
  refine CT_of (by decide +kernel) (Nat.le_of_ble_eq_true rfl) ?_
  intro p e s m args below meth c X E hr hlk hnm
  have dk : ∀ {pc : Nat} {q : Instr × Nat}, lkd DX8_come pc = some q → decode cX8_come pc = .ok q := lkd_ok DX8_come_ok
  have h32 : ts.length ≤ 32 := M.2.2.2.2.2.2.2.1
  have loop : ∀ (d k : Nat) (l : List (Nat × Value)), lsel l [2, 1, 0] = [(2, vI k), (1, .ref u), (0, .ref o8)] → k + d = ts.length → (∀ i, i < k → ts[i]? ≠ some t) → WR p la e (rmD 3 0 0) s m args below meth c D cA B0 3 (fun v h' => v = none ∧ CS h' o8 T O Q (comeT ts t) (comeO ts of' t) pt can ∧ Fc o8 T O Q h h') 2 l [] h 0 0 := by
    intro d
    induction d with
    | zero =>
      intro k l hl' hk hm
      have hkt : k = ts.length := by omega
      subst hkt
      have hnt : t ∉ ts := fun z => by
        obtain ⟨i, hi⟩ := List.getElem?_of_mem z
        exact hm i (List.getElem?_eq_some_iff.mp hi).1 hi
      have hlt := hl hnt
      obtain ⟨vs, v1, v2, M'⟩ := M.push hu huO huQ ht hlt
      have K := M.kinds
      refine WS.sel [2, 1, 0] hl' ?_
      repeat refine fst1_ok X (dk rfl) rfl ?_
      refine getf_ok X flX8_35 (dk rfl) M.1 rfl ?_
      refine br_ok X (dk rfl) rfl (show ((7 : Nat) : Int) + 23 = ((30 : Nat) : Int) from rfl) (fun _ => ?_) (fun c1 => absurd ((nI_leI (by omega) (by omega)).mpr (by omega)) c1)
      refine fst1_ok X (dk rfl) rfl ?_
      refine getf_ok X flX8_11 (dk rfl) M.1 rfl ?_
      refine fst1_ok X (dk rfl) rfl ?_
      refine getf_ok X flX8_35 (dk rfl) M.1 rfl ?_
      refine fst1_ok X (dk rfl) rfl ?_
      refine str_ok X (dk rfl) v1 hu (by omega) (by omega) ?_
      have q1 : hup h T (105, vs.set ts.length (.ref u)) o8 = some (10, [.ref T, .ref O, .ref Q, vI ts.length, .int (bI can)]) := by rw [hup_ne _ _ K.1]; exact M.1
      have q2 : hup h T (105, vs.set ts.length (.ref u)) O = some (IA of') := by rw [hup_ne _ _ K.2.2.2.1.symm]; exact M.2.2.1
      refine fst1_ok X (dk rfl) rfl ?_
      refine getf_ok X flX8_17 (dk rfl) q1 rfl ?_
      refine fst1_ok X (dk rfl) rfl ?_
      refine getf_ok X flX8_35 (dk rfl) q1 rfl ?_
      refine fst1_ok X (dk rfl) rfl ?_
      refine getf_ok X flX8_35 (dk rfl) q1 rfl ?_
      refine sti_ok X (dk rfl) q2 (by rw [List.length_map, M.2.2.2.2.2.1]; omega) (by rw [List.length_map, M.2.2.2.2.2.1]; omega) ?_
      have q3 : hup (hup h T (105, vs.set ts.length (.ref u))) O (100, (of'.map vI).set ts.length (.int (nI ts.length))) o8 = some (10, [.ref T, .ref O, .ref Q, vI ts.length, .int (bI can)]) := by rw [hup_ne _ _ K.2.1]; exact q1
      iterate 2 refine fst1_ok X (dk rfl) rfl ?_
      refine getf_ok X flX8_35 (dk rfl) q3 rfl ?_
      repeat refine fst1_ok X (dk rfl) rfl ?_
      rw [nI_1', nI_add]
      refine putf_ok X flX8_35 ftX8_3 (Or.inl rfl) rfl rfl (dk rfl) q3 (Nat.le_of_ble_eq_true rfl) ?_
      refine retv_ok X hr hlk (dk rfl) ⟨rfl, ?_, ?_⟩ (Nat.le_refl _) (Nat.le_refl _)
      · unfold comeT comeO
        rw [if_neg hnt, if_neg hnt]
        exact M'
      · exact (((Fc.rf h).set (Or.inr (Or.inl rfl)) _).set (Or.inr (Or.inr (Or.inl rfl))) _).set (Or.inl rfl) _
    | succ d ih =>
      intro k l hl' hk hm
      have f2 : Value.int (nI k + Int32.ofInt 1) = vI (k + 1) := congrArg Value.int (by rw [nI_1', nI_add])
      obtain ⟨vs, a, r, x, t1, t2, t3, t4, t5, t6, t7, t8, t9, t10⟩ := M.term (k := k) (by omega)
      refine WS.sel [2, 1, 0] hl' ?_
      repeat refine fst1_ok X (dk rfl) rfl ?_
      refine getf_ok X flX8_35 (dk rfl) M.1 rfl ?_
      refine br_ok X (dk rfl) rfl (show ((7 : Nat) : Int) + 23 = ((30 : Nat) : Int) from rfl) (fun c1 => absurd (nI_ge' (by omega) (by omega) c1) (by omega)) (fun _ => ?_)
      refine fst1_ok X (dk rfl) rfl ?_
      refine getf_ok X flX8_11 (dk rfl) M.1 rfl ?_
      refine fst1_ok X (dk rfl) rfl ?_
      refine ld5_ok X (dk rfl) t1 t2 (by omega) ?_
      refine fst1_ok X (dk rfl) rfl ?_
      refine callSN_ok (av := [.ref a, .ref u]) (r := []) X E (c_same h t4 hu (by omega) (by omega) t5.lt ht.1.lt) lkX10_same mnX8_62 lsX10_same ⟨Nat.le_of_ble_eq_true rfl, Nat.le_of_ble_eq_true rfl⟩ ⟨Nat.le_of_ble_eq_true rfl, Nat.le_of_ble_eq_true rfl⟩ (Nat.le_of_ble_eq_true rfl) (dk rfl) ?_
      rintro v h2 ⟨rfl, rfl⟩
      by_cases e : r = t
      · rw [if_pos e]
        refine br_ok X (dk rfl) rfl (show ((20 : Nat) : Int) + 4 = ((24 : Nat) : Int) from rfl) (fun c1 => absurd c1 (by decide)) (fun _ => ?_)
        have hm' : t ∈ ts := by rw [← e]; exact List.mem_of_getElem? t3
        refine retv_ok X hr hlk (dk rfl) ⟨rfl, ?_, Fc.rf _⟩ (Nat.le_refl _) (Nat.le_refl _)
        unfold comeT comeO
        rw [if_pos hm', if_pos hm']
        exact M
      · rw [if_neg e]
        refine br_ok X (dk rfl) rfl (show ((20 : Nat) : Int) + 4 = ((24 : Nat) : Int) from rfl) (fun _ => ?_) (fun c1 => absurd rfl c1)
        repeat refine fst1_ok X (dk rfl) rfl ?_
        refine br_ok X (dk rfl) rfl (show ((27 : Nat) : Int) + (-25) = ((2 : Nat) : Int) from rfl) (fun _ => ?_) (fun q => absurd trivial q)
        refine WS.sel (l' := [(2, vI (k + 1)), (1, .ref u), (0, .ref o8)]) [2, 1, 0] (by rw [← f2]; rfl) ?_
        refine ih (k + 1) _ rfl (by omega) (fun i hi => ?_)
        rcases Nat.lt_or_ge i k with z | z
        · exact hm i z
        · have : i = k := by omega
          rw [this, t3]
          exact fun z => e (Option.some.inj z)
  iterate 2 refine fst1_ok X (dk rfl) rfl ?_
  exact loop ts.length 0 _ rfl (Nat.zero_add _) (fun i hi => absurd hi (Nat.not_lt_zero i))
def PtOk (ts : List (List Nat)) (pt : List Nat) : Prop := ∀ a, a < ts.length → ∀ j, j < pF (hdT ts a) → pt.getD (3 * a + j) 0 < ts.length
theorem hdT_pF {h : AH} (M : CS h o8 T O Q ts of' pt can) {a : Nat} (ha : a < ts.length) : pF (hdT ts a) ≤ 3 := by
  obtain ⟨vs, q, r, x, t1, t2, t3, t4, t5, t6, t7, t8, t9, t10⟩ := M.term ha
  unfold hdT
  rw [t9]
  have := t8.lt
  unfold pF
  split <;> omega
def JoC (la : Launch) (D : va_G) (cA : Nat → ClassId) (B0 pa o8 T O Q : Nat) (ts : List (List Nat)) (pt : List Nat) (f : Nat) : Prop := ∀ (h : AH) (of' : List Nat) (can : Bool) (one other : Nat) (o2 : List Nat) (c2 : Bool), CS h o8 T O Q ts of' pt can → one < ts.length → other < ts.length → joinF ts pt f of' can one other = some (o2, c2) →
  CT la D cA B0 pa yX8_join cX8_join 8 none (rmD (f + 1) 0 0) [.ref o8, vI one, vI other] h (fun v h' => v = none ∧ CS h' o8 T O Q ts o2 pt c2 ∧ Fc o8 T O Q h h')
set_option maxHeartbeats 16000000 in
theorem c_join (hP : PtOk ts pt) : ∀ f : Nat, JoC la D cA B0 pa o8 T O Q ts pt f
  | 0 => by
    intro h of' can one other o2 c2 M h1 h2 hJ
    cases hJ
  | f + 1 => by
    have IH := c_join hP f
    intro h of' can one other o2 c2 M h1 h2 hJ
    refine CT_of (by decide +kernel) (Nat.le_of_ble_eq_true rfl) ?_
    intro p e s m args below meth c X E hr hlk hnm
    have dk : ∀ {pc : Nat} {q : Instr × Nat}, lkd DX8_join pc = some q → decode cX8_join pc = .ok q := lkd_ok DX8_join_ok
    have h32 : ts.length ≤ 32 := M.2.2.2.2.2.2.2.1
    obtain ⟨a0, x1, x2, x3⟩ := M.ofx (k := one) (by omega)
    obtain ⟨b0, y1, y2, y3⟩ := M.ofx (k := other) (by omega)
    unfold joinF at hJ
    rw [x3, y3] at hJ
    repeat refine fst1_ok X (dk rfl) rfl ?_
    refine getf_ok X flX8_17 (dk rfl) M.1 rfl ?_
    refine fst1_ok X (dk rfl) rfl ?_
    refine ald_ok X (Or.inl ⟨rfl, rfl⟩) (dk rfl) M.2.2.1 (inA_nI (by omega) (IA_get x1)) ?_
    repeat refine fst1_ok X (dk rfl) rfl ?_
    refine getf_ok X flX8_17 (dk rfl) M.1 rfl ?_
    refine fst1_ok X (dk rfl) rfl ?_
    refine ald_ok X (Or.inl ⟨rfl, rfl⟩) (dk rfl) M.2.2.1 (inA_nI (by omega) (IA_get y1)) ?_
    repeat refine fst1_ok X (dk rfl) rfl ?_
    refine br_ok X (dk rfl) rfl (show ((18 : Nat) : Int) + 10 = ((28 : Nat) : Int) from rfl) (fun c1 => ?_) (fun c1 => ?_)
    · have e0 : a0 = b0 := (nI_eq (by omega) (by omega)).mp c1
      rw [if_pos (Or.inl e0)] at hJ
      cases hJ
      exact retv_ok X hr hlk (dk rfl) ⟨rfl, M, Fc.rf _⟩ (Nat.zero_le _) (Nat.zero_le _)
    have e0 : a0 ≠ b0 := fun z => c1 (by rw [z])
    refine fst1_ok X (dk rfl) rfl ?_
    refine getf_ok X flX8_23 (dk rfl) M.1 rfl ?_
    refine br_ok X (dk rfl) rfl (show ((25 : Nat) : Int) + 4 = ((29 : Nat) : Int) from rfl) (fun c2' => ?_) (fun c2' => ?_)
    rotate_left
    · have ec : can = false := by
        cases can with
        | false => rfl
        | true => exact absurd bI_t c2'
      rw [if_pos (Or.inr ec)] at hJ
      cases hJ
      exact retv_ok X hr hlk (dk rfl) ⟨rfl, M, Fc.rf _⟩ (Nat.zero_le _) (Nat.zero_le _)
    have ec : can = true := by
      cases can with
      | false => exact absurd c2' bI_f
      | true => rfl
    rw [if_neg (fun z => by
      rcases z with z | z
      · exact e0 z
      · rw [ec] at z; cases z)] at hJ
    repeat refine fst1_ok X (dk rfl) rfl ?_
    refine callV_ok (ci := 10) (T := TX8) (N := 5) (av := [vI a0]) (r := []) X E (c_headed h M x2) lkX8_headed mlX8_66 lmX8_headed lpX8_headed ⟨by show 0 + 1 ≤ f + 1 + 1; omega, by show 8 + (3 + 11) + 40 * 0 ≤ 40 * (f + 1 + 1); omega⟩ ⟨Nat.zero_le _, Nat.zero_le _⟩ rfl M.1 (Nat.le_of_ble_eq_true rfl) (dk rfl) ?_
    rintro v h2 ⟨rfl, rfl⟩
    rw [vP_pI]
    repeat refine fst1_ok X (dk rfl) rfl ?_
    refine callV_ok (ci := 10) (T := TX8) (N := 5) (av := [vI b0]) (r := []) X E (c_headed h2 M y2) lkX8_headed mlX8_66 lmX8_headed lpX8_headed ⟨by show 0 + 1 ≤ f + 1 + 1; omega, by show 8 + (3 + 11) + 40 * 0 ≤ 40 * (f + 1 + 1); omega⟩ ⟨Nat.zero_le _, Nat.zero_le _⟩ rfl M.1 (Nat.le_of_ble_eq_true rfl) (dk rfl) ?_
    rintro v h3 ⟨rfl, rfl⟩
    rw [vP_pI]
    have hreL : ∀ k x, x ∈ relF of' a0 b0 k → x < 32 := relF_lt M.2.2.2.2.2.2.2.2.2.1 x2
    -- behind the relabeling
    have after : ∀ (hh : AH) (l : List (Nat × Value)), lsel l [6, 5, 0] = [(6, .int (pI (headF ts of' b0))), (5, .int (pI (headF ts of' a0))), (0, .ref o8)] → CS hh o8 T O Q ts (relF of' a0 b0 ts.length) pt can → Fc o8 T O Q h3 hh → WR p la e (rmD (f + 1 + 1) 0 0) s m args below meth c D cA B0 8 (fun v h' => v = none ∧ CS h' o8 T O Q ts o2 pt c2 ∧ Fc o8 T O Q h3 h') 82 l [] hh 0 0 := by
      intro hh l hl MM FF
      refine WS.sel [6, 5, 0] hl ?_
      refine fst1_ok X (dk rfl) rfl ?_
      cases ha : headF ts of' a0 with
      | none =>
        rw [ha] at hJ
        refine br_ok X (dk rfl) rfl (show ((84 : Nat) : Int) + 8 = ((92 : Nat) : Int) from rfl) (fun _ => ?_) (fun q => absurd (by decide) q)
        cases hJ
        exact retv_ok X hr hlk (dk rfl) ⟨rfl, MM, FF⟩ (Nat.zero_le _) (Nat.zero_le _)
      | some a =>
        have hal := headF_ok ha
        refine br_ok X (dk rfl) rfl (show ((84 : Nat) : Int) + 8 = ((92 : Nat) : Int) from rfl) (fun q => absurd q (nI_pos (by omega))) (fun _ => ?_)
        refine fst1_ok X (dk rfl) rfl ?_
        cases hb : headF ts of' b0 with
        | none =>
          rw [ha, hb] at hJ
          refine br_ok X (dk rfl) rfl (show ((89 : Nat) : Int) + 4 = ((93 : Nat) : Int) from rfl) (fun q => absurd q (by decide)) (fun _ => ?_)
          cases hJ
          exact retv_ok X hr hlk (dk rfl) ⟨rfl, MM, FF⟩ (Nat.zero_le _) (Nat.zero_le _)
        | some b =>
          have hbl := headF_ok hb
          rw [ha, hb] at hJ
          dsimp only at hJ
          refine br_ok X (dk rfl) rfl (show ((89 : Nat) : Int) + 4 = ((93 : Nat) : Int) from rfl) (fun _ => ?_) (fun q => absurd (nI_pos' (by omega)) q)
          obtain ⟨vs, q1, r1, u1, t1, t2, t3, t4, t5, t6, t7, t8, t9, t10⟩ := MM.term hal.1
          obtain ⟨vs', q2, r2, u2, w1, w2, w3, w4, w5, w6, w7, w8, w9, w10⟩ := MM.term hbl.1
          have u18 := t8.lt
          have v18 := w8.lt
          have ea : hdT ts a = u1 := t9
          have eb : hdT ts b = u2 := w9
          rw [ea, eb] at hJ
          refine fst1_ok X (dk rfl) rfl ?_
          refine getf_ok X flX8_11 (dk rfl) MM.1 rfl ?_
          refine fst1_ok X (dk rfl) rfl ?_
          refine ld5_ok X (dk rfl) t1 t2 (by omega) ?_
          refine fst1_ok X (dk rfl) rfl ?_
          refine ald_ok X (Or.inl ⟨rfl, rfl⟩) (dk rfl) t4 (inA_nI (j := 0) (by omega) (IA_get t7)) ?_
          refine fst1_ok X (dk rfl) rfl ?_
          refine getf_ok X flX8_11 (dk rfl) MM.1 rfl ?_
          refine fst1_ok X (dk rfl) rfl ?_
          refine ld5_ok X (dk rfl) w1 w2 (by omega) ?_
          refine fst1_ok X (dk rfl) rfl ?_
          refine ald_ok X (Or.inl ⟨rfl, rfl⟩) (dk rfl) w4 (inA_nI (j := 0) (by omega) (IA_get w7)) ?_
          refine br_ok X (dk rfl) rfl (show ((111 : Nat) : Int) + 9 = ((120 : Nat) : Int) from rfl) (fun c3 => ?_) (fun c3 => ?_)
          · have eu : u1 = u2 := (nI_eq (by omega) (by omega)).mp c3
            rw [if_pos eu] at hJ
            have loop2 : ∀ (n j : Nat) (o1 : List Nat) (c1 : Bool) (hj : AH) (l : List (Nat × Value)), lsel l [7, 6, 5, 0] = [(7, vI j), (6, vI b), (5, vI a), (0, .ref o8)] → j + n = pF u1 → CS hj o8 T O Q ts o1 pt c1 → Fc o8 T O Q h3 hj → joinL (joinF ts pt f) pt a b n j o1 c1 = some (o2, c2) → WR p la e (rmD (f + 1 + 1) 0 0) s m args below meth c D cA B0 8 (fun v h' => v = none ∧ CS h' o8 T O Q ts o2 pt c2 ∧ Fc o8 T O Q h3 h') 123 l [] hj 0 0 := by
              have hp3 : pF u1 ≤ 3 := by rw [← ea]; exact hdT_pF M hal.1
              intro n
              induction n with
              | zero =>
                intro j o1 c1 hj l hl hjn Mj Fj hJ2
                obtain ⟨vs5, q5, r5, z1, m1, m2, m3, m4, m5, m6, m7, m8, m9, m10⟩ := Mj.term hal.1
                have ez : z1 = u1 := by rw [← m9]; exact ea
                subst ez
                cases hJ2
                refine WS.sel [7, 6, 5, 0] hl ?_
                repeat refine fst1_ok X (dk rfl) rfl ?_
                refine getf_ok X flX8_11 (dk rfl) Mj.1 rfl ?_
                refine fst1_ok X (dk rfl) rfl ?_
                refine ld5_ok X (dk rfl) m1 m2 (by omega) ?_
                refine fst1_ok X (dk rfl) rfl ?_
                refine ald_ok X (Or.inl ⟨rfl, rfl⟩) (dk rfl) m4 (inA_nI (j := 0) (by omega) (IA_get m7)) ?_
                refine callSN_ok (av := [vI z1]) (r := [vI j]) X E (c_parts hj (by omega)) lkX10_parts mnX8_39 lsX10_parts ⟨by show 0 + 1 ≤ f + 1 + 1; omega, by show 8 + (1 + 11) + 40 * 0 ≤ 40 * (f + 1 + 1); omega⟩ ⟨Nat.zero_le _, Nat.zero_le _⟩ (Nat.le_of_ble_eq_true rfl) (dk rfl) ?_
                rintro v h4 ⟨rfl, rfl⟩
                refine br_ok X (dk rfl) rfl (show ((137 : Nat) : Int) + 37 = ((174 : Nat) : Int) from rfl) (fun _ => ?_) (fun q => absurd ((nI_leI (by omega) (by omega)).mpr (by omega)) q)
                exact retv_ok X hr hlk (dk rfl) ⟨rfl, Mj, Fj⟩ (Nat.zero_le _) (Nat.zero_le _)
              | succ n ih =>
                intro j o1 c1 hj l hl hjn Mj Fj hJ2
                obtain ⟨vs5, q5, r5, z1, m1, m2, m3, m4, m5, m6, m7, m8, m9, m10⟩ := Mj.term hal.1
                have ez : z1 = u1 := by rw [← m9]; exact ea
                subst ez
                have f2 : Value.int (nI j + Int32.ofInt 1) = vI (j + 1) := congrArg Value.int (by rw [nI_1', nI_add])
                obtain ⟨p1, p2, p3, p4⟩ := Mj.ptx (k := 3 * a + j) (by omega)
                obtain ⟨s1, s2, s3, s4⟩ := Mj.ptx (k := 3 * b + j) (by omega)
                have l1 := hP a hal.1 j (by rw [ea]; omega)
                have l2 := hP b hbl.1 j (by rw [eb, ← eu]; omega)
                rw [p4] at l1
                rw [s4] at l2
                unfold joinL at hJ2
                rw [p4, s4] at hJ2
                refine WS.sel [7, 6, 5, 0] hl ?_
                repeat refine fst1_ok X (dk rfl) rfl ?_
                refine getf_ok X flX8_11 (dk rfl) Mj.1 rfl ?_
                refine fst1_ok X (dk rfl) rfl ?_
                refine ld5_ok X (dk rfl) m1 m2 (by omega) ?_
                refine fst1_ok X (dk rfl) rfl ?_
                refine ald_ok X (Or.inl ⟨rfl, rfl⟩) (dk rfl) m4 (inA_nI (j := 0) (by omega) (IA_get m7)) ?_
                refine callSN_ok (av := [vI z1]) (r := [vI j]) X E (c_parts hj (by omega)) lkX10_parts mnX8_39 lsX10_parts ⟨by show 0 + 1 ≤ f + 1 + 1; omega, by show 8 + (1 + 11) + 40 * 0 ≤ 40 * (f + 1 + 1); omega⟩ ⟨Nat.zero_le _, Nat.zero_le _⟩ (Nat.le_of_ble_eq_true rfl) (dk rfl) ?_
                rintro v h4 ⟨rfl, rfl⟩
                refine br_ok X (dk rfl) rfl (show ((137 : Nat) : Int) + 37 = ((174 : Nat) : Int) from rfl) (fun q => absurd (nI_ge' (by omega) (by omega) q) (by omega)) (fun _ => ?_)
                repeat refine fst1_ok X (dk rfl) rfl ?_
                refine getf_ok X flX8_20 (dk rfl) Mj.1 rfl ?_
                repeat refine fst1_ok X (dk rfl) rfl ?_
                rw [nI_3', nI_mul, nI_add]
                refine ald_ok X (Or.inl ⟨rfl, rfl⟩) (dk rfl) Mj.2.2.2.1 (inA_nI (by omega) (IA_get p2)) ?_
                refine fst1_ok X (dk rfl) rfl ?_
                refine getf_ok X flX8_20 (dk rfl) Mj.1 rfl ?_
                repeat refine fst1_ok X (dk rfl) rfl ?_
                rw [nI_3', nI_mul, nI_add]
                refine ald_ok X (Or.inl ⟨rfl, rfl⟩) (dk rfl) Mj.2.2.2.1 (inA_nI (by omega) (IA_get s2)) ?_
                cases hg : joinF ts pt f o1 c1 p1 s1 with
                | none => rw [hg] at hJ2; cases hJ2
                | some g =>
                obtain ⟨o3, c3'⟩ := g
                rw [hg] at hJ2
                dsimp only at hJ2
                refine callV_ok (ci := 10) (T := TX8) (N := 5) (av := [vI p1, vI s1]) (r := []) X E (IH _ o1 c1 p1 s1 o3 c3' Mj l1 l2 hg) lkX8_join mlX8_50 lmX8_join lpX8_join ⟨by show f + 1 + 1 ≤ f + 1 + 1; omega, by show 8 + (8 + 11) + 40 * (f + 1) ≤ 40 * (f + 1 + 1); omega⟩ ⟨Nat.zero_le _, Nat.zero_le _⟩ rfl Mj.1 (Nat.le_of_ble_eq_true rfl) (dk rfl) ?_
                rintro v h5 ⟨rfl, M5, F5⟩
                repeat refine fst1_ok X (dk rfl) rfl ?_
                refine br_ok X (dk rfl) rfl (show ((171 : Nat) : Int) + (-48) = ((123 : Nat) : Int) from rfl) (fun _ => ?_) (fun q => absurd trivial q)
                refine WS.sel (l' := [(7, vI (j + 1)), (6, vI b), (5, vI a), (0, .ref o8)]) [7, 6, 5, 0] (by rw [← f2]; rfl) ?_
                exact ih (j + 1) o3 c3' h5 _ rfl (by omega) M5 (Fj.trans F5) hJ2
            iterate 2 refine fst1_ok X (dk rfl) rfl ?_
            exact loop2 (pF u1) 0 _ _ hh _ rfl (Nat.zero_add _) MM FF hJ
          · have eu : u1 ≠ u2 := fun z => c3 (by rw [z])
            rw [if_neg eu] at hJ
            cases hJ
            repeat refine fst1_ok X (dk rfl) rfl ?_
            refine putf_ok X flX8_23 ftX8_4 (Or.inl rfl) rfl rfl (dk rfl) MM.1 (Nat.le_of_ble_eq_true rfl) ?_
            exact retv_ok X hr hlk (dk rfl) ⟨rfl, MM.setC false, FF.set (Or.inl rfl) _⟩ (Nat.zero_le _) (Nat.zero_le _)
    have loop : ∀ (d k : Nat) (hh : AH) (l : List (Nat × Value)), lsel l [7, 6, 5, 4, 3, 0] = [(7, vI k), (6, .int (pI (headF ts of' b0))), (5, .int (pI (headF ts of' a0))), (4, vI b0), (3, vI a0), (0, .ref o8)] → k + d = ts.length → CS hh o8 T O Q ts (relF of' a0 b0 k) pt can → Fc o8 T O Q h3 hh → WR p la e (rmD (f + 1 + 1) 0 0) s m args below meth c D cA B0 8 (fun v h' => v = none ∧ CS h' o8 T O Q ts o2 pt c2 ∧ Fc o8 T O Q h3 h') 47 l [] hh 0 0 := by
      intro d
      induction d with
      | zero =>
        intro k hh l hl hk MM FF
        have hkt : k = ts.length := by omega
        subst hkt
        refine WS.sel [7, 6, 5, 4, 3, 0] hl ?_
        repeat refine fst1_ok X (dk rfl) rfl ?_
        refine getf_ok X flX8_35 (dk rfl) MM.1 rfl ?_
        refine br_ok X (dk rfl) rfl (show ((53 : Nat) : Int) + 29 = ((82 : Nat) : Int) from rfl) (fun _ => ?_) (fun c1 => absurd ((nI_leI (by omega) (by omega)).mpr (by omega)) c1)
        exact after hh _ rfl MM FF
      | succ d ih =>
        intro k hh l hl hk MM FF
        have f2 : Value.int (nI k + Int32.ofInt 1) = vI (k + 1) := congrArg Value.int (by rw [nI_1', nI_add])
        obtain ⟨y, z1, z2, z3⟩ := MM.ofx (k := k) (by omega)
        have next9 : ∀ hh : AH, CS hh o8 T O Q ts (relF of' a0 b0 (k + 1)) pt can → Fc o8 T O Q h3 hh → ∀ l : List (Nat × Value), lsel l [7, 6, 5, 4, 3, 0] = [(7, vI k), (6, .int (pI (headF ts of' b0))), (5, .int (pI (headF ts of' a0))), (4, vI b0), (3, vI a0), (0, .ref o8)] → WR p la e (rmD (f + 1 + 1) 0 0) s m args below meth c D cA B0 8 (fun v h' => v = none ∧ CS h' o8 T O Q ts o2 pt c2 ∧ Fc o8 T O Q h3 h') 76 l [] hh 0 0 := by
          intro hh MM FF l hl
          refine WS.sel [7, 6, 5, 4, 3, 0] hl ?_
          repeat refine fst1_ok X (dk rfl) rfl ?_
          refine br_ok X (dk rfl) rfl (show ((79 : Nat) : Int) + (-32) = ((47 : Nat) : Int) from rfl) (fun _ => ?_) (fun q => absurd trivial q)
          refine WS.sel (l' := [(7, vI (k + 1)), (6, .int (pI (headF ts of' b0))), (5, .int (pI (headF ts of' a0))), (4, vI b0), (3, vI a0), (0, .ref o8)]) [7, 6, 5, 4, 3, 0] (by rw [← f2]; rfl) ?_
          exact ih (k + 1) hh _ rfl (by omega) MM FF
        refine WS.sel [7, 6, 5, 4, 3, 0] hl ?_
        repeat refine fst1_ok X (dk rfl) rfl ?_
        refine getf_ok X flX8_35 (dk rfl) MM.1 rfl ?_
        refine br_ok X (dk rfl) rfl (show ((53 : Nat) : Int) + 29 = ((82 : Nat) : Int) from rfl) (fun c1 => absurd (nI_ge' (by omega) (by omega) c1) (by omega)) (fun _ => ?_)
        refine fst1_ok X (dk rfl) rfl ?_
        refine getf_ok X flX8_17 (dk rfl) MM.1 rfl ?_
        refine fst1_ok X (dk rfl) rfl ?_
        refine ald_ok X (Or.inl ⟨rfl, rfl⟩) (dk rfl) MM.2.2.1 (inA_nI (by omega) (IA_get z1)) ?_
        refine fst1_ok X (dk rfl) rfl ?_
        refine br_ok X (dk rfl) rfl (show ((65 : Nat) : Int) + 11 = ((76 : Nat) : Int) from rfl) (fun c4 => ?_) (fun c4 => ?_)
        · refine next9 hh ?_ FF _ rfl
          rw [relF_succ, if_neg (fun z => c4 (by rw [← z3, z]))]
          exact MM
        · have ey : y = b0 := (nI_eq (by omega) (by omega)).mp (Decidable.not_not.mp c4)
          refine fst1_ok X (dk rfl) rfl ?_
          refine getf_ok X flX8_17 (dk rfl) MM.1 rfl ?_
          repeat refine fst1_ok X (dk rfl) rfl ?_
          refine sti_ok X (dk rfl) MM.2.2.1 (by rw [List.length_map, MM.2.2.2.2.2.1]; omega) (by rw [List.length_map, MM.2.2.2.2.2.1]; omega) ?_
          refine next9 _ ?_ (FF.set (Or.inr (Or.inr (Or.inl rfl))) _) _ rfl
          rw [relF_succ, if_pos (by rw [z3, ey])]
          exact MM.setO x2
    iterate 3 refine fst1_ok X (dk rfl) rfl ?_
    exact loop ts.length 0 h3 _ rfl (Nat.zero_add _) M (Fc.rf _)
end M73
end U73cl2
