/-! the bound on the steps, 6: the size of a term, by its levels -/
def cI (X : List Nat) (f : Nat → Nat) (p : Nat) : Nat := sJ (fun i => f (p + i)) (tl X p)
theorem cI_kids {X : List Nat} (hX : BX X) {f : Nat → Nat} {p : Nat} (hp : p < X.length) : cI X f p = f p + sJ (fun j => cI X f (ko X p j)) (ga X p) := by
  have key : ∀ j, j ≤ ga X p → sJ (fun i => f (p + 1 + i)) (ko X p j - (p + 1)) = sJ (fun j => cI X f (ko X p j)) j := by
    intro j
    induction j with
    | zero => intro _; show sJ _ (p + 1 - (p + 1)) = 0; rw [Nat.sub_self]; rfl
    | succ j ih =>
      intro hj
      obtain ⟨k1, k2, k3, k4, k5⟩ := ko_mono hX hp (show j < ga X p by omega)
      have e : ko X p (j + 1) - (p + 1) = (ko X p j - (p + 1)) + tl X (ko X p j) := by
        show ko X p j + tl X (ko X p j) - (p + 1) = _
        omega
      rw [e, sJ_add, ih (by omega)]
      show _ = sJ _ j + cI X f (ko X p j)
      congr 1
      unfold cI
      refine sJ_congr (fun i _ => ?_)
      rw [show p + 1 + (ko X p j - (p + 1) + i) = ko X p j + i by omega]
  have h1 := key (ga X p) (Nat.le_refl _)
  rw [ko_last hX hp] at h1
  rw [← h1]
  have h2 := (bx_tl hX hp).2.1
  unfold cI
  rw [show tl X p = 1 + (p + tl X p - (p + 1)) by omega, sJ_add]
  congr 1
  · show 0 + f (p + 0) = _
    rw [Nat.add_zero, Nat.zero_add]
  · rw [show p + (1 + (p + tl X p - (p + 1))) - (p + 1) = p + tl X p - (p + 1) by omega]
    refine sJ_congr (fun i _ => ?_)
    rw [show p + (1 + i) = p + 1 + i by omega]
theorem sJ_lin (A B : Nat → Nat) (v : Nat) : ∀ n, sJ (fun j => A j + (1 + B j) * v) n = sJ A n + (n + sJ B n) * v
  | 0 => by show 0 = 0 + (0 + 0) * v; simp
  | n + 1 => by
    show sJ (fun j => A j + (1 + B j) * v) n + (A n + (1 + B n) * v) = sJ A n + A n + (n + 1 + (sJ B n + B n)) * v
    rw [sJ_lin A B v n, show n + 1 + (sJ B n + B n) = (n + sJ B n) + (1 + B n) by omega, Nat.add_mul (n + sJ B n)]
    omega
theorem sJ_plus (f g : Nat → Nat) : ∀ n, sJ (fun j => f j + g j) n = sJ f n + sJ g n
  | 0 => rfl
  | n + 1 => by
    show sJ (fun j => f j + g j) n + (f n + g n) = sJ f n + f n + (sJ g n + g n)
    rw [sJ_plus f g n]
    omega
theorem sJ_two (f : Nat → Nat) : ∀ n, sJ (fun j => 2 * f j) n = 2 * sJ f n
  | 0 => rfl
  | n + 1 => by
    show sJ (fun j => 2 * f j) n + 2 * f n = 2 * (sJ f n + f n)
    rw [sJ_two f n]
    omega
theorem sJ_lek {f g : Nat → Nat} {k d : Nat} : ∀ {n : Nat}, k < n → (∀ i, i < n → f i ≤ g i) → f k + d ≤ g k → sJ f n + d ≤ sJ g n
  | n + 1, h, hl, hk => by
    show sJ f n + f n + d ≤ sJ g n + g n
    rcases Nat.lt_or_ge k n with q | q
    · have := sJ_lek q (fun i hi => hl i (by omega)) hk
      have := hl n (by omega)
      omega
    · have : k = n := by omega
      subst this
      have := sJ_le (f := f) (g := g) (n := k) (fun i hi => hl i (by omega))
      omega
theorem sJ_swap (F : Nat → Nat → Nat) (n : Nat) : ∀ m, sJ (fun c => sJ (fun i => F c i) n) m = sJ (fun i => sJ (fun c => F c i) m) n
  | 0 => by
    show 0 = sJ (fun i => 0) n
    induction n with
    | zero => rfl
    | succ n ih => show 0 = sJ (fun i => 0) n + 0; rw [← ih]
  | m + 1 => by
    show sJ (fun c => sJ (fun i => F c i) n) m + sJ (fun i => F m i) n = sJ (fun i => sJ (fun c => F c i) m + F m i) n
    rw [sJ_swap F n m, sJ_plus]
theorem sJ_0 {f : Nat → Nat} : ∀ {n : Nat}, (∀ i, i < n → f i = 0) → sJ f n = 0
  | 0, _ => rfl
  | n + 1, h => by
    show sJ f n + f n = 0
    rw [sJ_0 (fun i hi => h i (by omega)), h n (by omega)]
theorem sJ_one {f : Nat → Nat} {B : Nat} : ∀ {n : Nat}, (∀ i j, i < n → j < n → f i ≠ 0 → f j ≠ 0 → i = j) → (∀ i, i < n → f i ≤ B) → sJ f n ≤ B
  | 0, _, _ => Nat.zero_le _
  | n + 1, h1, h2 => by
    show sJ f n + f n ≤ B
    by_cases z : f n = 0
    · have := sJ_one (f := f) (B := B) (n := n) (fun i j hi hj => h1 i j (by omega) (by omega)) (fun i hi => h2 i (by omega))
      omega
    · rw [sJ_0 (fun i hi => Decidable.byContradiction (fun y => by have := h1 i n (by omega) (by omega) y z; omega))]
      have := h2 n (by omega)
      omega
theorem sJ_single {k x : Nat} : ∀ {n : Nat}, k < n → sJ (fun c => if k = c then x else 0) n = x
  | n + 1, h => by
    show sJ (fun c => if k = c then x else 0) n + (if k = n then x else 0) = x
    by_cases e : k = n
    · rw [if_pos e, sJ_0 (fun i hi => if_neg (by omega))]
      omega
    · rw [if_neg e, sJ_single (by omega), Nat.add_zero]
/-- a term, down to what is small -/
theorem fr_ok {X : List Nat} (hX : BX X) {b : Nat} {w : Nat → Nat} {v u : Nat} (hu : u < X.length) (hz : ∀ z, u ≤ z → z < u + tl X u → v < uP X b w z → 0 < ga X z) : ∀ (n p : Nat), tl X p ≤ n → u ≤ p → p + tl X p ≤ u + tl X u → p < X.length →
    uP X b w p ≤ cI X (fun i => if v < uP X b w i then 1 else 0) p + (1 + cI X (fun i => if v < uP X b w i then ga X i - 1 else 0) p) * v
  | 0, p, hn, h1, h2, hp => by
    have := (bx_tl hX hp).2.1
    omega
  | n + 1, p, hn, h1, h2, hp => by
    have h3 := (bx_tl hX hp).2.1
    rcases Nat.lt_or_ge v (uP X b w p) with c | c
    · have hg := hz p h1 (by omega) c
      rw [uP_head hX hp hg, cI_kids hX hp, cI_kids hX hp, if_pos c, if_pos c]
      have h4 : sJ (fun j => uP X b w (ko X p j)) (ga X p) ≤ sJ (fun j => cI X (fun i => if v < uP X b w i then 1 else 0) (ko X p j) + (1 + cI X (fun i => if v < uP X b w i then ga X i - 1 else 0) (ko X p j)) * v) (ga X p) := by
        refine sJ_le (fun j hj => ?_)
        obtain ⟨k1, k2, k3, k4, k5⟩ := ko_mono hX hp hj
        exact fr_ok hX hu hz n (ko X p j) (by omega) (by omega) (by omega) k5
      rw [sJ_lin] at h4
      rw [show 1 + (ga X p - 1 + sJ (fun j => cI X (fun i => if v < uP X b w i then ga X i - 1 else 0) (ko X p j)) (ga X p)) = ga X p + sJ (fun j => cI X (fun i => if v < uP X b w i then ga X i - 1 else 0) (ko X p j)) (ga X p) by omega]
      omega
    · rw [Nat.add_mul, Nat.one_mul]
      omega
theorem Gn_gl {X : List Nat} {P : PL2} (hO : Ok2 X P) {x y : Nat} (g : Gn P x y) : gl X x = gl X y := g (fun x y => gl X x = gl X y) (fun _ => rfl) (fun _ _ h => h.symm) (fun _ _ _ h k => h.trans k) (fun q hq => (hO q hq).2.2.1)
/-- all that is known of the classes -/
def LVH (X : List Nat) (n1 : Nat) (S : SS) (dn an : PL2) (rp : Nat → Nat) (b : Nat) (w : Nat → Nat) : Prop :=
  BY X n1 ∧ S1 X S ∧ Cl X S dn ∧ Ok2 X (dn ++ an) ∧ Ty X n1 S dn (dn ++ an) ∧ VW X S b w ∧ (∀ x, S x = none → w x = b) ∧ (∀ x y, rp x = rp y → Gn (dn ++ an) x y) ∧ (∀ x, rp (rp x) = rp x) ∧ (∀ x, x < X.length → rp x < X.length)
theorem cls_ok {X : List Nat} {n1 : Nat} {S : SS} {dn an : PL2} {rp : Nat → Nat} {b : Nat} {w : Nat → Nat} (H : LVH X n1 S dn an rp b w) {u v : Nat} (hu : u < X.length) (hM : ∀ q ∈ an, uP X b w u < uP X b w q.1 ∧ uP X b w u < uP X b w q.2) (hv : ∀ x p, S x = some p → v < w x → w x < uP X b w u → False) :
    sJ (fun i => if v < uP X b w (u + i) then 2 * ga X (u + i) else 0) (tl X u) ≤ sJ (fun c => if rp c = c ∧ v < uP X b w c ∧ uP X b w c ≤ uP X b w u then 2 * ga X c else 0) X.length := by
  obtain ⟨hY, hS, hC, hO, hT, hw, hb, r1, r2, r3⟩ := H
  have hX := hY.1
  have hu2 := (bx_tl hX hu).2.2
  have e1 : sJ (fun i => if v < uP X b w (u + i) then 2 * ga X (u + i) else 0) (tl X u) = sJ (fun i => sJ (fun c => if rp (u + i) = c then (if v < uP X b w (u + i) then 2 * ga X (u + i) else 0) else 0) X.length) (tl X u) :=
    sJ_congr (fun i hi => (sJ_single (r3 _ (by omega))).symm)
  rw [e1, ← sJ_swap]
  have sm : ∀ i, i < tl X u → ∀ y, Gn (dn ++ an) (u + i) y → Gn dn (u + i) y := fun i hi y g => by
    have := (uP_in hX (b := b) (w := w) _ u (u + i) (Nat.le_refl _) hu (by omega) (by omega)).1
    exact Gn_small hX hS hC hw (by omega) (fun q hq => by have := hM q hq; omega) g
  refine sJ_le (fun c hc => sJ_one (fun i j hi hj f1 f2 => ?_) (fun i hi => ?_))
  · have a1 : rp (u + i) = c ∧ v < uP X b w (u + i) := by
      refine ⟨Decidable.byContradiction (fun z => f1 (if_neg z)), Decidable.byContradiction (fun z => f1 ?_)⟩
      rw [if_neg z]
      split <;> rfl
    have a2 : rp (u + j) = c := Decidable.byContradiction (fun z => f2 (if_neg z))
    have := td_ok hY hS hC hO hT hw hu hM _ (u + i) (u + j) (Nat.le_refl _) (by omega) (by omega) (by omega) (by omega) (fun x p h1 h2 h3 => hv x p h1 (by omega) h3) (r1 _ _ (a1.1.trans a2.symm))
    omega
  · by_cases e : rp (u + i) = c
    · rw [if_pos e]
      by_cases h : v < uP X b w (u + i)
      · rw [if_pos h]
        have g := r1 (u + i) c (by rw [← e, r2])
        have g2 := Gn_U hX hS hC hw (by omega) (sm i hi _ g)
        have := (uP_in hX (b := b) (w := w) _ u (u + i) (Nat.le_refl _) hu (by omega) (by omega)).1
        rw [if_pos ⟨by rw [← e, r2], by omega, by omega⟩, ga_eq (Gn_gl hO g)]
        exact Nat.le_refl _
      · rw [if_neg h]
        exact Nat.zero_le _
    · rw [if_neg e]
      exact Nat.zero_le _
