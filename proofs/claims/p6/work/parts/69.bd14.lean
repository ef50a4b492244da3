/-! the bound on the steps, 14: two terms from the start -/
theorem sJ_1 : ∀ n, sJ (fun _ => 1) n = n
  | 0 => rfl
  | n + 1 => by show sJ (fun _ => 1) n + 1 = n + 1; rw [sJ_1 n]
theorem cI_ga {X : List Nat} (hX : BX X) : ∀ n p, tl X p ≤ n → p < X.length → cI X (ga X) p + 1 = tl X p
  | 0, p, hn, hp => by have := (bx_tl hX hp).2.1; omega
  | n + 1, p, hn, hp => by
    have h1 := cI_kids hX (f := ga X) hp
    have h2 := cI_kids hX (f := fun _ => 1) hp
    have h3 : ∀ q, cI X (fun _ => 1) q = tl X q := fun q => sJ_1 _
    rw [h3] at h2
    have h4 : sJ (fun j => cI X (fun _ => 1) (ko X p j)) (ga X p) = sJ (fun j => cI X (ga X) (ko X p j) + 1) (ga X p) := sJ_congr (fun j hj => by
      obtain ⟨k1, k2, k3, k4, k5⟩ := ko_mono hX hp hj
      rw [h3]
      exact (cI_ga hX n (ko X p j) (by omega) k5).symm)
    rw [h4, sJ_plus, sJ_1] at h2
    omega
theorem ga_sum {X : List Nat} {n1 : Nat} (hY : BY X n1) : sJ (ga X) X.length + 2 = X.length := by
  obtain ⟨hX, y1, y2, y3, y4, y5, y6⟩ := hY
  have h1 := cI_ga hX _ 0 (Nat.le_refl _) (by omega)
  have h2 := cI_ga hX _ n1 (Nat.le_refl _) y3
  have e1 : cI X (ga X) 0 = sJ (ga X) n1 := by unfold cI; rw [y2]; exact sJ_congr (fun i _ => by rw [Nat.zero_add])
  have e2 : sJ (ga X) X.length = sJ (ga X) n1 + cI X (ga X) n1 := by
    rw [← y4, sJ_add]
    rfl
  omega
def sN : SS := fun _ => none
theorem Inv_0 (X : List Nat) : Inv X sN [] [] (fun x => x) :=
  ⟨fun x q h => (by cases h), ⟨fun _ => 0, 1, fun _ => Nat.zero_lt_one, fun x q h => (by cases h)⟩, fun q h => (by cases h), fun q h => (by cases h), fun x y => ⟨fun (e : x = y) => by subst e; exact Gn.rf _ _, fun g => g (fun x y => x = y) (fun _ => rfl) (fun _ _ h => h.symm) (fun _ _ _ h k => h.trans k) (fun q h => (by cases h))⟩, fun _ => rfl, fun _ h => h⟩
theorem BY_of {one other : List Nat} (h1 : TW one ∧ one.length ≤ 16) (h2 : TW other ∧ other.length ≤ 16) : BY (one ++ other) one.length ∧ sub' (one ++ other) 0 = one ∧ sub' (one ++ other) one.length = other := by
  have a1 : endL 1 ((one ++ other).drop 0) = some one.length := by rw [List.drop_zero]; exact endL_app _ _ _ _ h1.1.1
  have a2 : endL 1 ((one ++ other).drop one.length) = some other.length := by rw [List.drop_left]; exact h2.1.1
  have b1 := tl_of a1
  have b2 := tl_of a2
  have p1 := h1.1.pos
  have p2 := h2.1.pos
  have ln : (one ++ other).length = one.length + other.length := List.length_append
  refine ⟨⟨⟨?_, fun x hx => ?_, by omega⟩, p1, b1, by omega, by omega, h1.2, by omega⟩, ?_, ?_⟩
  · rw [ln]
    exact endL_join _ 1 1 _ _ (by rw [← List.drop_zero (l := one ++ other)]; exact a1) a2
  · rcases List.mem_append.mp hx with z | z
    · exact h1.1.2 x z
    · exact h2.1.2 x z
  · unfold sub'
    rw [b1, List.drop_zero, List.take_left]
  · unfold sub'
    rw [b2, List.drop_left, List.take_length]
/-- how many names stand for names -/
def cnN (X : List Nat) (S : SS) (x : Nat) : Nat := nbN S x - hvN X S x
def cnS (X : List Nat) (S : SS) : Nat := sJ (cnN X S) 8
theorem cn_hv (X : List Nat) (S : SS) : cnS X S + sJ (hvN X S) 8 = nbS S := by
  unfold cnS nbS
  rw [← sJ_plus]
  refine sJ_congr (fun i _ => ?_)
  have := hvN_le X S i
  show nbN S i - hvN X S i + hvN X S i = nbN S i
  omega
theorem cn_le (X : List Nat) (S : SS) : cnS X S ≤ 8 := by
  have h : cnS X S ≤ sJ (fun _ => 1) 8 := sJ_le (fun i _ => by
    show nbN S i - hvN X S i ≤ 1
    unfold nbN
    split <;> omega)
  rw [sJ_1] at h
  exact h
def H1 (c : Nat) : Nat := [1821, 1335, 890, 606, 444, 296, 201, 147, 147].getD c 0
def H0 (c : Nat) : Nat := [1456, 1092, 728, 484, 363, 242, 160, 120, 120].getD c 0
def Hchk (g h : Nat → Nat) : Bool := (List.range 9).all fun c => (List.range 20).all fun R => !(decide (3 * R + 3 * c ≤ 59)) || decide (R * g (59 - 3 * R - 3 * c) ≤ h c)
set_option maxRecDepth 100000 in
theorem H1_chk : Hchk g1 H1 = true := by decide +kernel
set_option maxRecDepth 100000 in
theorem H0_chk : Hchk g0 H0 = true := by decide +kernel
theorem Hchk_le {g h : Nat → Nat} (e : Hchk g h = true) {c R : Nat} (hc : c < 9) (hR : 3 * R + 3 * c ≤ 59) : R * g (59 - 3 * R - 3 * c) ≤ h c := by
  have k := List.all_eq_true.mp (List.all_eq_true.mp e c (List.mem_range.mpr hc)) R (List.mem_range.mpr (by omega))
  rcases Bool.or_eq_true_iff.mp k with k | k
  · rw [decide_eq_true hR] at k
    exact absurd k (by decide)
  · exact of_decide_eq_true k
theorem sum_le (f : Nat → Nat) (B : Nat) : ∀ rs : List Nat, (∀ t ∈ rs, f t ≤ B) → (rs.map f).sum ≤ rs.length * B
  | [], _ => by simp
  | t :: rs, h => by
    rw [List.map_cons, List.sum_cons, List.length_cons, Nat.add_mul, Nat.one_mul]
    have := sum_le f B rs (fun x hx => h x (List.mem_cons_of_mem _ hx))
    have := h t List.mem_cons_self
    omega
/-- at the end of a run that succeeded -/
theorem end_ok {X : List Nat} {n1 : Nat} (hY : BY X n1) {S : SS} {dn : PL2} {rp : Nat → Nat} {K R c1 c0 : Nat} {rs : List Nat} (I : Ins X n1 S dn (0, n1) [] rp (ga X 0) 0 K R c1 c0 rs) (hA : ∀ i, i < ga X 0 → Ap X S dn (ko X 0 i) (ko X n1 i)) : c1 ≤ 31 + H1 (cnS X S) ∧ c0 ≤ 31 + H0 (cnS X S) := by
  have hX := hY.1
  have hpop := pop_ok I.1 hA
  have hga0 := I.root
  obtain ⟨t1, t2, t3, t4⟩ := I.hd
  obtain ⟨w1, hw1, hb1⟩ := I.w hY (b := 1) (by decide)
  obtain ⟨w0, hw0, hb0⟩ := I.w hY (b := 0) (by decide)
  have hc := cn_hv X S
  have hc9 := cn_le X S
  obtain ⟨-, i2, i3, i4, i5, i6, ⟨po1, po2⟩, ⟨k1, k2, k3, k4, k5, k6⟩⟩ := I
  obtain ⟨a1, a2, a3, a4, a5, a6, a7⟩ := hpop
  have hTy : Ty X n1 S ((0, n1) :: dn) ((0, n1) :: dn ++ []) := by
    intro q hq
    rcases List.mem_cons.mp hq with z | z
    · exact Or.inr (Or.inl z)
    · rcases i2 q z with h | h | ⟨y, hy, i, h1, h2⟩ | ⟨i, h1, h2⟩
      · exact Or.inl h
      · exact Or.inr (Or.inl h)
      · refine Or.inr (Or.inr ⟨y, ?_, i, h1, h2⟩)
        rw [List.append_nil] at hy ⊢
        exact List.mem_cons_of_mem _ hy
      · exact Or.inr (Or.inr ⟨(0, n1), List.mem_append_left _ List.mem_cons_self, i, h1, h2⟩)
  have bound : ∀ b w g, b ≤ 1 → VW X S b w → (∀ x, S x = none → w x = b) → Gp g b → gmon g = true → ∀ t ∈ rs, 3 * R + 3 * cnS X S ≤ 59 ∧ uP X b w t ≤ g (59 - 3 * R - 3 * cnS X S) := by
    intro b w gg hb hw hbw hg1 hg2 t ht
    obtain ⟨r1, r2, ⟨x, q, r3, r4⟩, r5⟩ := k4 t ht
    have H : LVH X n1 S ((0, n1) :: dn) [] rp b w := ⟨hY, a1, a3, a4, hTy, hw, hbw, fun x y => (a5 x y).mp, a6, a7⟩
    have hbl : b < uP X b w t := by
      have := uP_kid hX (b := b) (w := w) r1 r2
      have := uP_ge hX hb hw.1 (ko_mono hX r1 r2).2.2.2.2
      omega
    have e1 := r4 b w hw
    rcases hv_ex hX a1 hw hbw (x + 1) x (Nat.lt_succ_self _) with h | ⟨y, q', y1, y2, y3⟩
    · omega
    · have hA := AA_le H (v := uP X b w t) (fun q hq => by cases hq) (r5 b w hw)
      have := lv_ok H hb hg1 _ (uP X b w t) y q' (Nat.le_refl _) y1 y2 (by omega) (fun q hq => by cases hq) (by omega)
      exact ⟨by omega, Nat.le_trans this (gmon_to hg2 (by omega) (by omega))⟩
  have fin9 : ∀ b w g h c, b ≤ 1 → VW X S b w → (∀ x, S x = none → w x = b) → Gp g b → gmon g = true → Hchk g h = true → c ≤ K + (rs.map (uP X b w)).sum → c ≤ 31 + h (cnS X S) := by
    intro b w gg hh c hb hw hbw hg1 hg2 hk hcc
    have B := bound b w gg hb hw hbw hg1 hg2
    cases hrs : rs with
    | nil =>
      rw [hrs] at hcc
      simp only [List.map_nil, List.sum_nil] at hcc
      omega
    | cons t rs' =>
      have h59 := (B t (by rw [hrs]; exact List.mem_cons_self)).1
      have s1 := sum_le (uP X b w) (gg (59 - 3 * R - 3 * cnS X S)) rs (fun t ht => (B t ht).2)
      rw [k3] at s1
      have s2 := Hchk_le hk (show cnS X S < 9 by omega) h59
      omega
  exact ⟨fin9 1 w1 g1 H1 c1 (Nat.le_refl _) hw1 hb1 g1_p g1_mon H1_chk (k5 w1 hw1), fin9 0 w0 g0 H0 c0 (by decide) hw0 hb0 g0_p g0_mon H0_chk (k6 w0 hw0)⟩
