/-! the bound on the steps, 2: weights of names, sizes with all that names stand for -/
def sJ (f : Nat → Nat) : Nat → Nat
  | 0 => 0
  | n + 1 => sJ f n + f n
theorem sJ_congr {f g : Nat → Nat} : ∀ {n : Nat}, (∀ i, i < n → f i = g i) → sJ f n = sJ g n
  | 0, _ => rfl
  | n + 1, h => by
    show sJ f n + f n = sJ g n + g n
    rw [sJ_congr (fun i hi => h i (by omega)), h n (by omega)]
theorem sJ_le {f g : Nat → Nat} : ∀ {n : Nat}, (∀ i, i < n → f i ≤ g i) → sJ f n ≤ sJ g n
  | 0, _ => Nat.le_refl _
  | n + 1, h => by
    show sJ f n + f n ≤ sJ g n + g n
    have := sJ_le (f := f) (g := g) (n := n) (fun i hi => h i (by omega))
    have := h n (by omega)
    omega
theorem sJ_add (f : Nat → Nat) (m : Nat) : ∀ n, sJ f (m + n) = sJ f m + sJ (fun i => f (m + i)) n
  | 0 => rfl
  | n + 1 => by
    show sJ f (m + n) + f (m + n) = sJ f m + (sJ (fun i => f (m + i)) n + f (m + n))
    rw [sJ_add f m n, Nat.add_assoc]
theorem sJ_mem {f : Nat → Nat} : ∀ {n i : Nat}, i < n → f i ≤ sJ f n
  | n + 1, i, h => by
    show f i ≤ sJ f n + f n
    rcases Nat.lt_or_ge i n with q | q
    · have := sJ_mem (f := f) q
      omega
    · have : i = n := by omega
      subst this
      omega
theorem sJ_upd {f g : Nat → Nat} {k : Nat} : ∀ {n : Nat}, k < n → (∀ i, i ≠ k → f i = g i) → sJ f n + g k = sJ g n + f k
  | n + 1, h, e => by
    show sJ f n + f n + g k = sJ g n + g n + f k
    rcases Nat.lt_or_ge k n with q | q
    · have := sJ_upd q e
      have := e n (by omega)
      omega
    · have : k = n := by omega
      subst this
      rw [sJ_congr (f := f) (g := g) (fun i hi => e i (by omega))]
      omega
def wl (b : Nat) (w : Nat → Nat) (x : Nat) : Nat := if x < 10 then w x else if pF x = 0 then b else 1
def uI (X : List Nat) (b : Nat) (w : Nat → Nat) (p n : Nat) : Nat := sJ (fun i => wl b w (gl X (p + i))) n
/-- the size of the term at a place, with all that names stand for -/
def uP (X : List Nat) (b : Nat) (w : Nat → Nat) (p : Nat) : Nat := uI X b w p (tl X p)
theorem ga_pos {X : List Nat} {p : Nat} (h : 0 < ga X p) : 10 ≤ gl X p ∧ ∀ b w, wl b w (gl X p) = 1 := by
  have h1 : 10 ≤ gl X p := by
    rcases Nat.lt_or_ge (gl X p) 10 with q | q
    · rw [ga_name q] at h
      omega
    · exact q
  refine ⟨h1, fun b w => ?_⟩
  unfold wl
  rw [if_neg (by omega), if_neg (by unfold ga at h; omega)]
theorem uP_kids {X : List Nat} (hX : BX X) {b : Nat} {w : Nat → Nat} {p : Nat} (hp : p < X.length) : uP X b w p = wl b w (gl X p) + sJ (fun j => uP X b w (ko X p j)) (ga X p) := by
  have key : ∀ j, j ≤ ga X p → uI X b w (p + 1) (ko X p j - (p + 1)) = sJ (fun j => uP X b w (ko X p j)) j := by
    intro j
    induction j with
    | zero => intro _; show uI X b w (p + 1) (p + 1 - (p + 1)) = 0; rw [Nat.sub_self]; rfl
    | succ j ih =>
      intro hj
      obtain ⟨k1, k2, k3, k4, k5⟩ := ko_mono hX hp (show j < ga X p by omega)
      have e : ko X p (j + 1) - (p + 1) = (ko X p j - (p + 1)) + tl X (ko X p j) := by
        show ko X p j + tl X (ko X p j) - (p + 1) = _
        omega
      rw [e]
      unfold uI
      rw [sJ_add]
      have h1 := ih (by omega)
      unfold uI at h1
      rw [h1]
      show _ = sJ _ j + uP X b w (ko X p j)
      congr 1
      unfold uP uI
      refine sJ_congr (fun i _ => ?_)
      rw [show p + 1 + (ko X p j - (p + 1) + i) = ko X p j + i by omega]
  have h1 := key (ga X p) (Nat.le_refl _)
  rw [ko_last hX hp] at h1
  rw [← h1]
  have h2 := (bx_tl hX hp).2.1
  unfold uP uI
  rw [show tl X p = 1 + (p + tl X p - (p + 1)) by omega, sJ_add]
  congr 1
  · show 0 + wl b w (gl X (p + 0)) = _
    rw [Nat.add_zero, Nat.zero_add]
  · rw [show p + (1 + (p + tl X p - (p + 1))) - (p + 1) = p + tl X p - (p + 1) by omega]
    refine sJ_congr (fun i _ => ?_)
    rw [show p + (1 + i) = p + 1 + i by omega]
theorem uP_head {X : List Nat} (hX : BX X) {b : Nat} {w : Nat → Nat} {p : Nat} (hp : p < X.length) (h : 0 < ga X p) : uP X b w p = 1 + sJ (fun j => uP X b w (ko X p j)) (ga X p) := by rw [uP_kids hX hp, (ga_pos h).2]
theorem uP_leaf {X : List Nat} (hX : BX X) {b : Nat} {w : Nat → Nat} {p : Nat} (hp : p < X.length) (h : ga X p = 0) : uP X b w p = wl b w (gl X p) := by rw [uP_kids hX hp, h]; rfl
theorem uP_kid {X : List Nat} (hX : BX X) {b : Nat} {w : Nat → Nat} {p j : Nat} (hp : p < X.length) (h : j < ga X p) : uP X b w (ko X p j) < uP X b w p := by
  rw [uP_head hX hp (by omega)]
  have := sJ_mem (f := fun j => uP X b w (ko X p j)) h
  omega
theorem uP_in {X : List Nat} (hX : BX X) {b : Nat} {w : Nat → Nat} : ∀ (n p z : Nat), tl X p ≤ n → p < X.length → p ≤ z → z < p + tl X p → uP X b w z ≤ uP X b w p ∧ (z ≠ p → uP X b w z < uP X b w p)
  | 0, p, z, hn, hp, h1, h2 => by omega
  | n + 1, p, z, hn, hp, h1, h2 => by
    rcases Nat.eq_or_lt_of_le h1 with q | q
    · subst q
      exact ⟨Nat.le_refl _, fun h => absurd rfl h⟩
    · obtain ⟨j, j1, j2, j3⟩ := ko_find (X := X) (p := p) (ga X p) (show p + 1 ≤ z by omega) (by rw [ko_last hX hp]; exact h2)
      obtain ⟨k1, k2, k3, k4, k5⟩ := ko_mono hX hp j1
      have := (uP_in hX n (ko X p j) z (by omega) k5 j2 j3 (b := b) (w := w)).1
      have := uP_kid hX (b := b) (w := w) hp j1
      exact ⟨by omega, fun _ => by omega⟩
theorem uP_congr {X : List Nat} {b : Nat} {w w' : Nat → Nat} {p : Nat} (h : ∀ i, i < tl X p → gl X (p + i) < 10 → w (gl X (p + i)) = w' (gl X (p + i))) : uP X b w p = uP X b w' p := by
  refine sJ_congr (fun i hi => ?_)
  show wl b w (gl X (p + i)) = wl b w' (gl X (p + i))
  unfold wl
  split
  · exact h i hi (by assumption)
  · rfl
abbrev SS : Type := Nat → Option Nat
/-- weights of names, as what they stand for has it -/
def VW (X : List Nat) (S : SS) (b : Nat) (w : Nat → Nat) : Prop := (∀ x, b ≤ w x) ∧ ∀ x q, S x = some q → w x = uP X b w q
/-- no name stands within itself -/
def Ac (X : List Nat) (S : SS) : Prop := ∃ (rk : Nat → Nat) (K : Nat), (∀ x, rk x < K) ∧ ∀ x q, S x = some q → ∀ i, i < tl X q → gl X (q + i) < 10 → rk (gl X (q + i)) < rk x
def wF (X : List Nat) (S : SS) (b : Nat) (f : Nat → Nat) : Nat → Nat → Nat
  | 0, x => f x
  | k + 1, x => match S x with
    | some q => uP X b (wF X S b f k) q
    | none => f x
theorem wF_stable {X : List Nat} {S : SS} {b : Nat} {f rk : Nat → Nat} (h : ∀ x q, S x = some q → ∀ i, i < tl X q → gl X (q + i) < 10 → rk (gl X (q + i)) < rk x) : ∀ k x, rk x < k → wF X S b f (k + 1) x = wF X S b f k x
  | 0, x, hx => by omega
  | k + 1, x, hx => by
    show (match S x with | some q => uP X b (wF X S b f (k + 1)) q | none => f x) = (match S x with | some q => uP X b (wF X S b f k) q | none => f x)
    split
    · rename_i q hq
      refine uP_congr (fun i hi hg => ?_)
      have := h x q hq i hi hg
      exact wF_stable h k _ (by omega)
    · rfl
theorem uP_ge {X : List Nat} (hX : BX X) {b : Nat} {w : Nat → Nat} (hb : b ≤ 1) (hw : ∀ x, b ≤ w x) {p : Nat} (hp : p < X.length) : b ≤ uP X b w p := by
  have h := (bx_tl hX hp).2.1
  have := sJ_mem (f := fun i => wl b w (gl X (p + i))) h
  refine Nat.le_trans ?_ this
  show b ≤ wl b w (gl X (p + 0))
  unfold wl
  split
  · exact hw _
  · split
    · exact Nat.le_refl _
    · exact hb
theorem VW_ex {X : List Nat} (hX : BX X) {S : SS} (hA : Ac X S) (hS : ∀ x q, S x = some q → q < X.length) {b : Nat} {f : Nat → Nat} (hb : b ≤ 1) (hf : ∀ x, b ≤ f x) : ∃ w, VW X S b w ∧ ∀ x, S x = none → w x = f x := by
  obtain ⟨rk, K, h1, h2⟩ := hA
  have hge : ∀ k x, b ≤ wF X S b f k x := by
    intro k
    induction k with
    | zero => exact hf
    | succ k ih =>
      intro x
      show b ≤ (match S x with | some q => uP X b (wF X S b f k) q | none => f x)
      split
      · rename_i q hq
        exact uP_ge hX hb ih (hS x q hq)
      · exact hf x
  refine ⟨wF X S b f K, ⟨hge K, fun x q hq => ?_⟩, fun x hx => ?_⟩
  · rw [← wF_stable h2 K x (h1 x)]
    show (match S x with | some q => uP X b (wF X S b f K) q | none => f x) = _
    rw [hq]
  · rw [← wF_stable h2 K x (h1 x)]
    show (match S x with | some q => uP X b (wF X S b f K) q | none => f x) = _
    rw [hx]
def upS (S : SS) (x t : Nat) : SS := fun y => if y = x then some t else S y
theorem upS_self (S : SS) (x t : Nat) : upS S x t x = some t := by simp [upS]
theorem upS_ne (S : SS) {x y : Nat} (t : Nat) (h : y ≠ x) : upS S x t y = S y := by simp [upS, h]
theorem Ac_bind {X : List Nat} {S : SS} (hA : Ac X S) {C : Nat → Prop} {x t : Nat} (h1 : ∀ z q, C z → S z = some q → ∀ i, i < tl X q → gl X (q + i) < 10 → C (gl X (q + i))) (h2 : ¬ C x) (h3 : ∀ i, i < tl X t → gl X (t + i) < 10 → C (gl X (t + i))) : Ac X (upS S x t) := by
  obtain ⟨rk, K, k1, k2⟩ := hA
  have dec : ∀ z, Decidable (C z) := fun z => Classical.propDecidable _
  refine ⟨fun z => if C z then rk z else rk z + K, K + K, fun z => ?_, fun z q hz i hi hg => ?_⟩
  · have := k1 z
    show (if C z then rk z else rk z + K) < K + K
    split <;> omega
  · show (if C (gl X (q + i)) then rk (gl X (q + i)) else rk (gl X (q + i)) + K) < (if C z then rk z else rk z + K)
    by_cases e : z = x
    · subst e
      rw [upS_self] at hz
      cases hz
      rw [if_pos (h3 i hi hg), if_neg h2]
      have := k1 (gl X (t + i))
      omega
    · rw [upS_ne _ _ e] at hz
      have h4 := k2 z q hz i hi hg
      by_cases c : C z
      · rw [if_pos c, if_pos (h1 z q c hz i hi hg)]
        exact h4
      · rw [if_neg c]
        split <;> omega
/-- weights of what stands now were weights before -/
theorem VW_up {X : List Nat} {S S' : SS} (h : ∀ x q, S x = some q → S' x = some q) {b : Nat} {w : Nat → Nat} (v : VW X S' b w) : VW X S b w := ⟨v.1, fun x q hq => v.2 x q (h x q hq)⟩
