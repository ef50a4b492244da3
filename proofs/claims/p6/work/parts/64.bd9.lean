/-! the bound on the steps, 9: what stays when more names stand for something; a name within a term -/
def Up (S S' : SS) : Prop := ∀ x q, S x = some q → S' x = some q
theorem Up.rf (S : SS) : Up S S := fun _ _ h => h
theorem Up.tr {S S1 S2 : SS} (a : Up S S1) (b : Up S1 S2) : Up S S2 := fun x q h => b x q (a x q h)
theorem Up.bind {S : SS} {x t : Nat} (h : S x = none) : Up S (upS S x t) := fun y q hq => by
  rw [upS_ne _ _ (fun z => by rw [z, h] at hq; cases hq)]
  exact hq
theorem dp_ext {X : List Nat} (hX : BX X) {S S' : SS} (hS : S1 X S) (hS' : S1 X S') (hU : Up S S') : ∀ n p, gl X p < n → p < X.length → dp X S' p = dp X S' (dp X S p)
  | 0, p, hn, hp => by omega
  | n + 1, p, hn, hp => by
    by_cases hg : gl X p < 10
    · cases hq : S (gl X p) with
      | none => rw [dp_free (S := S) (fun _ => hq)]
      | some q =>
        obtain ⟨q1, q2, q3⟩ := hS _ _ hq
        rw [dp_name hX hS' hp hg (hU _ _ hq), dp_name hX hS hp hg hq]
        by_cases hn2 : gl X q < 10
        · have := q3 hn2
          exact dp_ext hX hS hS' hU n q (by omega) q2
        · rw [dp_free (S := S) (fun z => absurd z hn2)]
    · rw [dp_free (S := S) (fun z => absurd z hg)]
theorem dp_head {X : List Nat} (hX : BX X) {S S' : SS} (hS : S1 X S) (hS' : S1 X S') (hU : Up S S') {p : Nat} (hp : p < X.length) (h : 10 ≤ gl X (dp X S p)) : dp X S' p = dp X S p := by
  rw [dp_ext hX hS hS' hU _ p (Nat.lt_succ_self _) hp, dp_free (fun z => by omega)]
theorem Ap.up2 {X : List Nat} (hX : BX X) {S S' : SS} (hS : S1 X S) (hS' : S1 X S') (hU : Up S S') {dn dn' : PL2} (hd : ∀ q ∈ dn, q ∈ dn') {p q : Nat} (hp : p < X.length) (hq : q < X.length) (a : Ap X S dn p q) : Ap X S' dn' p q := by
  unfold Ap
  rw [dp_ext hX hS hS' hU _ p (Nat.lt_succ_self _) hp, dp_ext hX hS hS' hU _ q (Nat.lt_succ_self _) hq]
  obtain ⟨a1, a2⟩ := a
  have d3 := (dp_ok hX hS hp).2.2
  have e3 := (dp_ok hX hS hq).2.2
  generalize dp X S p = p1 at a1 a2 d3
  generalize dp X S q = q1 at a1 a2 e3
  rcases Nat.lt_or_ge (gl X p1) 10 with c | c
  · have c2 : gl X q1 < 10 := by rw [← a1]; exact c
    cases hs : S' (gl X p1) with
    | none =>
      rw [dp_free (fun _ => hs), dp_free (fun _ => by rw [← a1]; exact hs)]
      exact ⟨a1, Or.inl (ga_name c)⟩
    | some s =>
      rw [dp_name hX hS' d3 c hs, dp_name hX hS' e3 c2 (by rw [← a1]; exact hs)]
      exact ⟨rfl, Or.inr (Gn.rf _ _)⟩
  · rw [dp_free (fun z => by omega), dp_free (fun z => by omega)]
    exact ⟨a1, a2.imp id (fun g => g.mono hd)⟩
theorem Cl.up {X : List Nat} (hX : BX X) {S S' : SS} (hS : S1 X S) (hS' : S1 X S') (hU : Up S S') {dn : PL2} (h : Cl X S dn) : Cl X S' dn := fun q hq => by
  obtain ⟨h1, h2, h3, h4⟩ := h q hq
  exact ⟨h1, h2, h3, fun j hj => (h4 j hj).up2 hX hS hS' hU (fun _ z => z) (ko_mono hX h1 hj).2.2.2.2 (ko_mono hX h2 (by rw [← ga_eq h3]; exact hj)).2.2.2.2⟩
/-! isWithin: the set is closed in the end, or holds all names -/
def bt (s y : Nat) : Prop := s >>> y % 2 = 1
theorem bt_or (a b y : Nat) : bt (a ||| b) y ↔ bt a y ∨ bt b y := by
  unfold bt
  have e : ∀ n : Nat, n >>> y % 2 = 1 ↔ n.testBit y = true := by
    intro n
    rw [Nat.testBit, Nat.one_and_eq_mod_two]
    simp
  rw [e, e, e, Nat.testBit_or, Bool.or_eq_true]
theorem namesN_bt {y : Nat} (hy : y < 10) : ∀ (xs : List Nat) (b : Nat), bt (xs.foldl (fun m x => if x < 10 then m ||| 2 ^ x else m) b) y ↔ bt b y ∨ y ∈ xs
  | [], b => by simp
  | x :: r, b => by
    rw [List.foldl_cons, namesN_bt hy r]
    have e : ∀ n : Nat, bt n y ↔ n.testBit y = true := by
      intro n
      unfold bt
      rw [Nat.testBit, Nat.one_and_eq_mod_two]
      simp
    split
    · rw [bt_or, e (2 ^ x), Nat.testBit_two_pow, decide_eq_true_eq, List.mem_cons, or_assoc, eq_comm (a := x)]
    · rename_i h
      rw [List.mem_cons]
      constructor
      · rintro (q | q)
        · exact Or.inl q
        · exact Or.inr (Or.inr q)
      · rintro (q | q | q)
        · exact Or.inl q
        · exact absurd hy (by rw [q]; exact h)
        · exact Or.inr q
theorem namesN_mem {y : Nat} (hy : y < 10) (xs : List Nat) : bt (namesN xs) y ↔ y ∈ xs := by
  unfold namesN
  rw [namesN_bt hy xs 0]
  constructor
  · rintro (q | q)
    · simp [bt] at q
    · exact q
  · exact Or.inr
theorem wStep_bt (sm : SM) (s k y : Nat) (h : bt s y) : bt (wStep sm s k) y := by
  unfold wStep
  split
  · split
    · exact (bt_or _ _ _).mpr (Or.inl h)
    · exact h
  · exact h
theorem wRow_bt (sm : SM) (s y : Nat) (h : bt s y) : ∀ k, bt (wRow sm s k) y
  | 0 => h
  | k + 1 => wStep_bt sm _ k y (wRow_bt sm s y h k)
theorem wRow_mem (sm : SM) (s z : Nat) {t : List Nat} (hz : bt s z) (ht : sm.getD z none = some t) {y : Nat} (hy : y < 10) (hm : y ∈ t) : ∀ n, z < n → bt (wRow sm s n) y
  | 0, h => by omega
  | n + 1, h => by
    rcases Nat.lt_or_ge z n with c | c
    · exact wStep_bt sm _ n y (wRow_mem sm s z hz ht hy hm n c)
    · have : z = n := by omega
      subst this
      show bt (wStep sm (wRow sm s z) z) y
      unfold wStep
      rw [if_pos (show wRow sm s z >>> z % 2 = 1 from wRow_bt sm s z hz z), ht]
      exact (bt_or _ _ _).mpr (Or.inr ((namesN_mem hy t).mpr hm))
def bc8 (s : Nat) : Nat := sJ (fun y => s >>> y % 2) 8
theorem bchk_ok : ∀ s < 256, sJ (fun y => (s >>> y % 2) * 2 ^ y) 8 = s := by decide +kernel
theorem bc_lt {s t : Nat} (hs : s < 256) (ht : t < 256) (h : ∀ y, bt s y → bt t y) (hne : s ≠ t) : bc8 s < bc8 t := by
  have hle : ∀ y, s >>> y % 2 ≤ t >>> y % 2 := fun y => by
    rcases Nat.mod_two_eq_zero_or_one (s >>> y) with z | z
    · rw [z]
      exact Nat.zero_le _
    · have q : t >>> y % 2 = 1 := h y z
      rw [z, q]
      exact Nat.le_refl _
  refine Classical.byContradiction (fun z => hne ?_)
  have heq : ∀ y, y < 8 → s >>> y % 2 = t >>> y % 2 := fun y hy => by
    refine Classical.byContradiction (fun w => z ?_)
    have h2 : s >>> y % 2 + 1 ≤ t >>> y % 2 := Nat.lt_of_le_of_ne (hle y) w
    exact sJ_lek (f := fun y => s >>> y % 2) (g := fun y => t >>> y % 2) (k := y) (d := 1) (n := 8) hy (fun i _ => hle i) h2
  rw [← bchk_ok s hs, ← bchk_ok t ht]
  exact sJ_congr (fun y hy => by rw [heq y hy])
theorem bc_8 {s : Nat} (h : 8 ≤ bc8 s) {y : Nat} (hy : y < 8) : bt s y := by
  refine Classical.byContradiction (fun z => ?_)
  have h0 : s >>> y % 2 = 0 := by
    have : ¬ s >>> y % 2 = 1 := z
    omega
  have h1 := sJ_lek (f := fun y => s >>> y % 2) (g := fun _ => 1) (k := y) (d := 1) (n := 8) hy (fun i _ => by omega) (by omega)
  have h2 : sJ (fun _ => 1) 8 = 8 := rfl
  unfold bc8 at h
  omega
/-- after k times the set is closed, or has grown k times -/
theorem wAll_grow {sm : SM} (hT : TT sm) {s : Nat} (hs : s < 256) : ∀ k, (∃ i, i < k ∧ wAll sm s (i + 1) = wAll sm s i) ∨ bc8 s + k ≤ bc8 (wAll sm s k)
  | 0 => Or.inr (Nat.le_refl _)
  | k + 1 => by
    rcases wAll_grow hT hs k with ⟨i, h1, h2⟩ | h
    · exact Or.inl ⟨i, by omega, h2⟩
    · by_cases e : wAll sm s (k + 1) = wAll sm s k
      · exact Or.inl ⟨k, by omega, e⟩
      · have := bc_lt (wAll_lt hT hs k) (wAll_lt hT hs (k + 1)) (fun y h => wRow_bt sm _ y h 8) (Ne.symm e)
        exact Or.inr (by omega)
theorem wAll_stop {sm : SM} {s i : Nat} (h : wAll sm s (i + 1) = wAll sm s i) : ∀ d, wAll sm s (i + d) = wAll sm s i
  | 0 => rfl
  | d + 1 => by
    show wRow sm (wAll sm s (i + d)) 8 = _
    rw [wAll_stop h d]
    exact h
theorem wAll_bt (sm : SM) {s y : Nat} (h : bt s y) : ∀ k, bt (wAll sm s k) y
  | 0 => h
  | k + 1 => wRow_bt sm _ y (wAll_bt sm h k) 8
/-- a name that isn't within: a closed set without it -/
theorem isWi_no {sm : SM} (hT : TT sm) {t : List Nat} (ht : TW t) {x : Nat} (hx : x < 8) (h : isWi sm x t = false) : ∃ C : Nat → Prop, ¬ C x ∧ (∀ y, y < 10 → y ∈ t → C y) ∧ ∀ z r, z < 8 → C z → sm.getD z none = some r → ∀ y, y < 10 → y ∈ r → C y := by
  have hs := namesN_lt ht.2
  have hn : ¬ bt (wAll sm (namesN t) 8) x := fun z => by
    unfold isWi at h
    rw [decide_eq_true (show wAll sm (namesN t) 8 >>> x % 2 = 1 from z)] at h
    cases h
  rcases wAll_grow hT hs 8 with ⟨i, h1, h2⟩ | h1
  · have h3 := wAll_stop h2
    refine ⟨bt (wAll sm (namesN t) 8), hn, fun y hy hm => wAll_bt sm ((namesN_mem hy t).mpr hm) 8, fun z r hz hc hr y hy hm => ?_⟩
    have h4 := wRow_mem sm _ z hc hr hy hm 8 hz
    have h5 := h3 (8 - i)
    rw [show i + (8 - i) = 8 by omega] at h5
    have h6 := h3 (9 - i)
    rw [show i + (9 - i) = 9 by omega] at h6
    have h7 : wRow sm (wAll sm (namesN t) 8) 8 = wAll sm (namesN t) 8 := h6.trans h5.symm
    rw [h7] at h4
    exact h4
  · exact absurd (bc_8 (by omega) hx) hn
