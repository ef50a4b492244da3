/-! the bound on the steps, 1: places of two terms behind each other -/
def BX (X : List Nat) : Prop := endL 2 X = some X.length ∧ (∀ x ∈ X, okL x) ∧ X.length ≤ 32
/-- the letter at a place, its parts, the place of a part -/
def gl (X : List Nat) (p : Nat) : Nat := X.getD p 0
def ga (X : List Nat) (p : Nat) : Nat := pF (gl X p)
def ko (X : List Nat) (p : Nat) : Nat → Nat
  | 0 => p + 1
  | j + 1 => ko X p j + tl X (ko X p j)
theorem dr_dr (X : List Nat) (a b : Nat) : (X.drop a).drop b = X.drop (a + b) := by rw [List.drop_drop]
theorem tl_of {X : List Nat} {p k : Nat} (h : endL 1 (X.drop p) = some k) : tl X p = k := by unfold tl; rw [h]; rfl
theorem gl_get {X : List Nat} {p : Nat} (hp : p < X.length) : X[p]? = some (gl X p) := by unfold gl; rw [List.getD_eq_getElem?_getD, List.getElem?_eq_getElem hp]; rfl
theorem gl_ok {X : List Nat} (hX : BX X) {p : Nat} (hp : p < X.length) : okL (gl X p) := hX.2.1 _ (List.mem_of_getElem? (gl_get hp))
theorem ga_name {X : List Nat} {p : Nat} (h : gl X p < 10) : ga X p = 0 := by unfold ga pF; rw [if_pos h]
theorem ga_le {X : List Nat} (hX : BX X) {p : Nat} (hp : p < X.length) : ga X p ≤ 3 := by
  have := (gl_ok hX hp).lt
  unfold ga pF
  split <;> omega
theorem bx_tl {X : List Nat} (hX : BX X) {p : Nat} (hp : p < X.length) : endL 1 (X.drop p) = some (tl X p) ∧ 0 < tl X p ∧ p + tl X p ≤ X.length := by
  obtain ⟨k, hk⟩ := endL_at X 2 p hX.1 hp
  have h1 := endL_le hk
  rw [List.length_drop] at h1
  rw [tl_of hk]
  exact ⟨hk, endL_pos (n := 0) hk, by omega⟩
theorem bx_ko {X : List Nat} (hX : BX X) {p : Nat} (hp : p < X.length) : ∀ j, j ≤ ga X p → ∃ k, endL j (X.drop (p + 1)) = some k ∧ ko X p j = p + 1 + k ∧ endL (ga X p - j) (X.drop (p + 1 + k)) = some (tl X p - 1 - k) ∧ k + 1 ≤ tl X p := by
  obtain ⟨h1, h2, h3⟩ := bx_tl hX hp
  intro j
  induction j with
  | zero =>
    intro _
    refine ⟨0, by simp [endL], rfl, ?_, h2⟩
    rw [drop_cons (gl_get hp)] at h1
    simp only [endL, Option.map_eq_some_iff, Nat.zero_add] at h1
    obtain ⟨i, hi, e⟩ := h1
    rw [Nat.sub_zero, Nat.add_zero]
    show endL (pF (gl X p)) _ = _
    rw [hi]
    congr 1
    omega
  | succ j ih =>
    intro hj
    obtain ⟨k, k1, k2, k3, k4⟩ := ih (by omega)
    rw [show ga X p - j = 1 + (ga X p - (j + 1)) by omega] at k3
    obtain ⟨i, i1, i2, i3⟩ := endL_add _ _ _ _ k3
    have i4 := endL_pos (n := 0) i1
    refine ⟨k + i, endL_join _ j 1 k i k1 (by rw [dr_dr]; exact i1), ?_, ?_, by omega⟩
    · show ko X p j + tl X (ko X p j) = _
      rw [k2, tl_of i1]
      omega
    · rw [dr_dr] at i3
      rw [show p + 1 + (k + i) = p + 1 + k + i by omega, i3]
      congr 1
      omega
theorem ko_mono {X : List Nat} (hX : BX X) {p : Nat} (hp : p < X.length) {j : Nat} (hj : j < ga X p) : p < ko X p j ∧ ko X p j < p + tl X p ∧ 0 < tl X (ko X p j) ∧ ko X p j + tl X (ko X p j) ≤ p + tl X p ∧ ko X p j < X.length := by
  obtain ⟨k, k1, k2, k3, k4⟩ := bx_ko hX hp j (by omega)
  obtain ⟨i, i1, i2, i3, i4⟩ := bx_ko hX hp (j + 1) (by omega)
  have e : ko X p (j + 1) = ko X p j + tl X (ko X p j) := rfl
  obtain ⟨h1, h2, h3⟩ := bx_tl hX hp
  have q : ko X p j < X.length := by
    rw [show ga X p - j = (ga X p - (j + 1)) + 1 by omega] at k3
    have := endL_pos k3
    omega
  have := (bx_tl hX q).2.1
  omega
theorem ko_last {X : List Nat} (hX : BX X) {p : Nat} (hp : p < X.length) : ko X p (ga X p) = p + tl X p := by
  obtain ⟨k, k1, k2, k3, k4⟩ := bx_ko hX hp (ga X p) (Nat.le_refl _)
  rw [Nat.sub_self] at k3
  simp only [endL, Option.some.injEq] at k3
  omega
theorem ko_lt {X : List Nat} (hX : BX X) {p : Nat} (hp : p < X.length) : ∀ {i j : Nat}, i < j → j ≤ ga X p → ko X p i + tl X (ko X p i) ≤ ko X p j
  | i, 0, h, _ => by omega
  | i, j + 1, h, hj => by
    have e : ko X p (j + 1) = ko X p j + tl X (ko X p j) := rfl
    rcases Nat.lt_or_ge i j with q | q
    · have := ko_lt hX hp q (by omega)
      omega
    · have : i = j := by omega
      subst this
      omega
theorem ko_inj {X : List Nat} (hX : BX X) {p : Nat} (hp : p < X.length) {i j : Nat} (hi : i < ga X p) (hj : j < ga X p) (h : ko X p i = ko X p j) : i = j := by
  rcases Nat.lt_trichotomy i j with q | q | q
  · have := ko_lt hX hp q (by omega)
    have := (ko_mono hX hp hi).2.2.1
    omega
  · exact q
  · have := ko_lt hX hp q (by omega)
    have := (ko_mono hX hp hj).2.2.1
    omega
/-- the part in which a place lies -/
theorem ko_find {X : List Nat} {p z : Nat} : ∀ n, ko X p 0 ≤ z → z < ko X p n → ∃ j, j < n ∧ ko X p j ≤ z ∧ z < ko X p (j + 1)
  | 0, h1, h2 => by omega
  | n + 1, h1, h2 => by
    rcases Nat.lt_or_ge z (ko X p n) with q | q
    · obtain ⟨j, a, b, c⟩ := ko_find n h1 q
      exact ⟨j, by omega, b, c⟩
    · exact ⟨n, by omega, q, h2⟩
theorem tl_in {X : List Nat} (hX : BX X) {p z : Nat} (hp : p < X.length) (h1 : p ≤ z) (h2 : z < p + tl X p) : z + tl X z ≤ p + tl X p := by
  obtain ⟨e1, e2, e3⟩ := bx_tl hX hp
  have e4 := endL_take _ _ _ e1
  have l4 : ((X.drop p).take (tl X p)).length = tl X p := by rw [List.length_take, List.length_drop]; omega
  obtain ⟨k, hk⟩ := endL_at ((X.drop p).take (tl X p)) 1 (z - p) (by rw [e4, l4]) (by omega)
  have h3 := endL_le hk
  rw [List.length_drop, l4] at h3
  rw [List.drop_take] at hk
  have h4 := endL_app _ ((((X.drop p).drop (z - p))).drop (tl X p - (z - p))) _ _ hk
  rw [List.take_append_drop, dr_dr, show p + (z - p) = z by omega] at h4
  rw [tl_of h4]
  omega
/-- each place within has one that it is a part of -/
theorem par_ex {X : List Nat} (hX : BX X) : ∀ (n p z : Nat), tl X p ≤ n → p < X.length → p < z → z < p + tl X p → ∃ a j, p ≤ a ∧ a < z ∧ a < p + tl X p ∧ a < X.length ∧ j < ga X a ∧ ko X a j = z
  | 0, p, z, hn, hp, h1, h2 => by omega
  | n + 1, p, z, hn, hp, h1, h2 => by
    obtain ⟨j, j1, j2, j3⟩ := ko_find (X := X) (p := p) (ga X p) (show p + 1 ≤ z by omega) (by rw [ko_last hX hp]; exact h2)
    obtain ⟨k1, k2, k3, k4, k5⟩ := ko_mono hX hp j1
    rcases Nat.eq_or_lt_of_le j2 with q | q
    · exact ⟨p, j, Nat.le_refl _, h1, by omega, hp, j1, q⟩
    · obtain ⟨a, i, a1, a2, a3, a4, a5, a6⟩ := par_ex hX n (ko X p j) z (by omega) k5 q j3
      exact ⟨a, i, by omega, a2, by omega, a4, a5, a6⟩
theorem par_un1 {X : List Nat} (hX : BX X) {a j a' j' : Nat} (ha : a < X.length) (ha' : a' < X.length) (hj : j < ga X a) (hj' : j' < ga X a') (h : ko X a j = ko X a' j') (hlt : a < a') : False := by
  obtain ⟨k1, k2, k3, k4, k5⟩ := ko_mono hX ha hj
  obtain ⟨i1, i2, i3, i4, i5⟩ := ko_mono hX ha' hj'
  obtain ⟨t, t1, t2, t3⟩ := ko_find (X := X) (p := a) (z := a') j (show a + 1 ≤ a' by omega) (by omega)
  obtain ⟨m1, m2, m3, m4, m5⟩ := ko_mono hX ha (show t < ga X a by omega)
  have := tl_in hX m5 t2 t3
  have := ko_lt hX ha t1 (by omega)
  omega
theorem par_un {X : List Nat} (hX : BX X) {a j a' j' : Nat} (ha : a < X.length) (ha' : a' < X.length) (hj : j < ga X a) (hj' : j' < ga X a') (h : ko X a j = ko X a' j') : a = a' ∧ j = j' := by
  have e : a = a' := by
    rcases Nat.lt_trichotomy a a' with q | q | q
    · exact absurd (par_un1 hX ha ha' hj hj' h q) (fun z => z)
    · exact q
    · exact absurd (par_un1 hX ha' ha hj' hj h.symm q) (fun z => z)
  subst e
  exact ⟨rfl, ko_inj hX ha hj hj' h⟩
