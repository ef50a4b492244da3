/-! what makes two terms alike: steps and classes tell the same (written by hand) -/
/-- what is told of names fits what names stand for -/
def Sat (X : List Nat) (S : SS) (g : Nat → List Nat) : Prop := ∀ x q, S x = some q → g x = exF g (sub' X q)
theorem sat_dpF {X : List Nat} (hX : BX X) {S : SS} (hS : S1 X S) {g : Nat → List Nat} (H : Sat X S g) : ∀ f p, p < X.length → exF g (sub' X (dpF X S f p)) = exF g (sub' X p)
  | 0, _, _ => rfl
  | f + 1, p, hp => by
    unfold dpF
    by_cases c : gl X p < 10
    · rw [if_pos c]
      cases e : S (gl X p) with
      | none => rfl
      | some q =>
        show exF g (sub' X (dpF X S f q)) = _
        rw [sat_dpF hX hS H f q (hS _ _ e).2.1, exF_nm hX g hp c, H _ _ e]
    · rw [if_neg c]
theorem cK_inj {W : Nat → List Nat} {X : List Nat} {p q : Nat} : ∀ (n j : Nat), (∀ i, j ≤ i → i < j + n → endL 1 (W (ko X p i)) = some (W (ko X p i)).length ∧ endL 1 (W (ko X q i)) = some (W (ko X q i)).length) → cK W X p n j = cK W X q n j → ∀ i, j ≤ i → i < j + n → W (ko X p i) = W (ko X q i)
  | 0, j, _, _, i, h1, h2 => by omega
  | n + 1, j, hw, h, i, h1, h2 => by
    have e : W (ko X p j) ++ cK W X p n (j + 1) = W (ko X q j) ++ cK W X q n (j + 1) := h
    obtain ⟨a1, a2⟩ := hw j (Nat.le_refl _) (by omega)
    have b1 := endL_app _ (cK W X p n (j + 1)) _ _ a1
    have b2 := endL_app _ (cK W X q n (j + 1)) _ _ a2
    rw [e, b2] at b1
    have hl : (W (ko X p j)).length = (W (ko X q j)).length := (Option.some.inj b1).symm
    obtain ⟨c1, c2⟩ := List.append_inj e hl
    rcases Nat.lt_or_ge j i with z | z
    · exact cK_inj n (j + 1) (fun i h1 h2 => hw i (by omega) (by omega)) c2 i (by omega) (by omega)
    · have e2 : i = j := by omega
      subst e2
      exact c1
theorem cK_len {W : Nat → List Nat} {X : List Nat} {p : Nat} : ∀ (n j i : Nat), j ≤ i → i < j + n → (W (ko X p i)).length ≤ (cK W X p n j).length
  | 0, j, i, h1, h2 => by omega
  | n + 1, j, i, h1, h2 => by
    show _ ≤ (W (ko X p j) ++ cK W X p n (j + 1)).length
    rw [List.length_append]
    rcases Nat.lt_or_ge j i with z | z
    · have := cK_len (W := W) (X := X) (p := p) n (j + 1) i (by omega) (by omega)
      omega
    · have e2 : i = j := by omega
      subst e2
      omega
theorem exF_TW {X : List Nat} (hX : BX X) {g : Nat → List Nat} (hg : ∀ x, x < 8 → TW (g x)) {p : Nat} (hp : p < X.length) : TW (exF g (sub' X p)) := by
  have st := sub_TW hX hp
  rw [exF_used g st.2]
  exact TW.used (fun z hz => by
    obtain ⟨x, hx, rfl⟩ := List.mem_map.mp hz
    exact hg x (List.mem_range.mp hx)) (by rw [List.length_map, List.length_range]; omega) st
theorem exF_heads {X : List Nat} (hX : BX X) {g : Nat → List Nat} (hg : ∀ x, x < 8 → TW (g x)) {a b : Nat} (ha : a < X.length) (hb : b < X.length) (h1 : 10 ≤ gl X a) (h2 : 10 ≤ gl X b) (h : exF g (sub' X a) = exF g (sub' X b)) : gl X a = gl X b ∧ ∀ j, j < ga X a → exF g (sub' X (ko X a j)) = exF g (sub' X (ko X b j)) := by
  rw [exF_hd hX g ha h1, exF_hd hX g hb h2] at h
  obtain ⟨e1, e2⟩ := List.cons.inj h
  have eg := ga_eq e1
  rw [← eg] at e2
  refine ⟨e1, fun j hj => ?_⟩
  exact cK_inj (W := fun q => exF g (sub' X q)) _ 0 (fun i _ hi => ⟨(exF_TW hX hg (ko_mono hX ha (j := i) (by omega)).2.2.2.2).1, (exF_TW hX hg (ko_mono hX hb (j := i) (by omega)).2.2.2.2).1⟩) e2 j (Nat.zero_le _) (by omega)
theorem exF_parts {X : List Nat} (hX : BX X) {g : Nat → List Nat} {a b : Nat} (ha : a < X.length) (hb : b < X.length) (h1 : 10 ≤ gl X a) (e : gl X a = gl X b) (h : ∀ j, j < ga X a → exF g (sub' X (ko X a j)) = exF g (sub' X (ko X b j))) : exF g (sub' X a) = exF g (sub' X b) := by
  rw [exF_hd hX g ha h1, exF_hd hX g hb (by omega), ← e, ← ga_eq e]
  congr 1
  exact cK_two (W := fun q => exF g (sub' X q)) _ 0 (fun i _ hi => h i (by omega))
theorem exF_mem {g : Nat → List Nat} : ∀ {xs : List Nat} {y : Nat}, y ∈ xs → y < 10 → (g y).length ≤ (exF g xs).length
  | [], y, h, _ => by cases h
  | x :: r, y, h, hy => by
    rw [exF_cons, List.length_append]
    rcases List.mem_cons.mp h with z | z
    · subst z
      have : exN g y = g y := if_pos hy
      rw [this]
      omega
    · have := exF_mem (g := g) z hy
      omega
theorem wRow_all {P : Nat → Prop} {sm : SM} (hc : ∀ k t, k < 8 → P k → sm.getD k none = some t → ∀ y, y < 10 → y ∈ t → P y) {s : Nat} (hs : ∀ y, y < 10 → bt s y → P y) : ∀ k, k ≤ 8 → ∀ y, y < 10 → bt (wRow sm s k) y → P y
  | 0, _, y, hy, h => hs y hy h
  | k + 1, hk, y, hy, h => by
    have ih := wRow_all hc hs k (by omega)
    unfold wRow wStep at h
    split at h
    · rename_i hb
      cases e : sm.getD k none with
      | none =>
        rw [e] at h
        exact ih y hy h
      | some t =>
        rw [e] at h
        rcases (bt_or _ _ _).mp h with z | z
        · exact ih y hy z
        · exact hc k t (by omega) (ih k (by omega) hb) e y hy ((namesN_mem hy t).mp z)
    · exact ih y hy h
theorem wAll_all {P : Nat → Prop} {sm : SM} (hc : ∀ k t, k < 8 → P k → sm.getD k none = some t → ∀ y, y < 10 → y ∈ t → P y) {s : Nat} (hs : ∀ y, y < 10 → bt s y → P y) : ∀ n y, y < 10 → bt (wAll sm s n) y → P y
  | 0, y, hy, h => hs y hy h
  | n + 1, y, hy, h => wRow_all hc (wAll_all hc hs n) 8 (Nat.le_refl _) y hy h
/-- what stands within a term is shorter than it -/
theorem wi_size {X : List Nat} (hX : BX X) {S : SS} {g : Nat → List Nat} (H : Sat X S g) {x b : Nat} (hx : x < 8) (hb : b < X.length) (hh : 10 ≤ gl X b) (h : isWi (smO X S) x (sub' X b) = true) : (g x).length < (exF g (sub' X b)).length := by
  have h2 : bt (wAll (smO X S) (namesN (sub' X b)) 8) x := by
    have z : wAll (smO X S) (namesN (sub' X b)) 8 >>> x % 2 = 1 := of_decide_eq_true h
    exact z
  refine wAll_all (P := fun y => (g y).length < (exF g (sub' X b)).length) (fun k t hk hP ht y hy hm => ?_) (fun y hy hm => ?_) 8 x (by omega) h2
  · rw [smO_get X S hk] at ht
    cases e : S k with
    | none => rw [e] at ht; cases ht
    | some q =>
      rw [e] at ht
      have e2 : sub' X q = t := Option.some.inj ht
      have e3 := H k q e
      rw [e2] at e3
      have := exF_mem (g := g) hm hy
      rw [← e3] at this
      exact Nat.lt_of_le_of_lt this hP
  · have hm2 := (namesN_mem hy (sub' X b)).mp hm
    rw [sub_cons hX hb] at hm2 ⊢
    rcases List.mem_cons.mp hm2 with z | z
    · omega
    · have := exF_mem (g := g) z hy
      rw [exF_cons, List.length_append]
      have e : exN g (gl X b) = [gl X b] := if_neg (by omega)
      rw [e]
      show _ < 1 + _
      omega
theorem kdL_mm {X : List Nat} {a b : Nat} : ∀ {k j : Nat} {z : Nat × Nat}, z ∈ kdL X a b k j → ∃ i, j ≤ i ∧ i < j + k ∧ z = (ko X a i, ko X b i)
  | 0, j, z, h => by cases h
  | k + 1, j, z, h => by
    rcases List.mem_cons.mp h with q | q
    · exact ⟨j, Nat.le_refl _, by omega, q⟩
    · obtain ⟨i, h1, h2, h3⟩ := kdL_mm q
      exact ⟨i, by omega, by omega, h3⟩
theorem sat_up {X : List Nat} {S : SS} {g : Nat → List Nat} (H : Sat X S g) {x t : Nat} (h : g x = exF g (sub' X t)) : Sat X (upS S x t) g := fun y r hy => by
  unfold upS at hy
  split at hy
  · rename_i ey
    cases hy
    rw [ey]
    exact h
  · exact H y r hy
theorem sat_dn {X : List Nat} {S : SS} {g : Nat → List Nat} {x t : Nat} (hn : S x = none) (H : Sat X (upS S x t) g) : Sat X S g ∧ g x = exF g (sub' X t) :=
  ⟨fun y r hy => H y r (by
    unfold upS
    rw [if_neg (fun z => by rw [z, hn] at hy; cases hy)]
    exact hy), H x t (by unfold upS; rw [if_pos rfl])⟩
/-- a step keeps what makes the pairs alike -/
theorem step_sat {X : List Nat} (hX : BX X) {S : SS} (hS : S1 X S) {g : Nat → List Nat} (hg : ∀ x, x < 8 → TW (g x)) (H : Sat X S g) {p q : Nat} (hp : p < X.length) (hq : q < X.length) (h : exF g (sub' X p) = exF g (sub' X q)) :
    (stepM X S p q).2.1 = 0 ∧ Sat X (stepM X S p q).1 g ∧ ∀ z ∈ (stepM X S p q).2.2, exF g (sub' X z.1) = exF g (sub' X z.2) := by
  obtain ⟨-, -, a3⟩ := dp_ok hX hS hp
  obtain ⟨-, -, b3⟩ := dp_ok hX hS hq
  have e : exF g (sub' X (dp X S p)) = exF g (sub' X (dp X S q)) := (sat_dpF hX hS H 9 p hp).trans (h.trans (sat_dpF hX hS H 9 q hq).symm)
  unfold stepM
  generalize dp X S p = a at a3 e ⊢
  generalize dp X S q = b at b3 e ⊢
  by_cases ca : gl X a < 10
  · have ea := exF_nm hX g a3 ca
    rw [if_pos ca]
    by_cases cb : gl X b < 10
    · have eb := exF_nm hX g b3 cb
      rw [if_pos cb]
      by_cases c1 : gl X b < gl X a
      · rw [if_pos c1]
        exact ⟨rfl, sat_up H (by rw [← ea, e]), fun z hz => by cases hz⟩
      · rw [if_neg c1]
        by_cases c2 : gl X a < gl X b
        · rw [if_pos c2]
          exact ⟨rfl, sat_up H (by rw [← eb, e]), fun z hz => by cases hz⟩
        · rw [if_neg c2]
          exact ⟨rfl, H, fun z hz => by cases hz⟩
    · rw [if_neg cb]
      have hw : ¬ isWi (smO X S) (gl X a) (sub' X b) = true := fun w => by
        have := wi_size hX H (gl_8 hX a3 ca) b3 (by omega) w
        rw [← e, ea] at this
        omega
      rw [if_neg hw]
      exact ⟨rfl, sat_up H (by rw [← ea, e]), fun z hz => by cases hz⟩
  · rw [if_neg ca]
    by_cases cb : gl X b < 10
    · have eb := exF_nm hX g b3 cb
      rw [if_pos cb]
      have hw : ¬ isWi (smO X S) (gl X b) (sub' X a) = true := fun w => by
        have := wi_size hX H (gl_8 hX b3 cb) a3 (by omega) w
        rw [e, eb] at this
        omega
      rw [if_neg hw]
      exact ⟨rfl, sat_up H (by rw [← eb, e]), fun z hz => by cases hz⟩
    · rw [if_neg cb]
      obtain ⟨g1, g2⟩ := exF_heads hX hg a3 b3 (by omega) (by omega) e
      rw [if_pos g1]
      refine ⟨rfl, H, fun z hz => ?_⟩
      obtain ⟨i, h1, h2, rfl⟩ := kdL_mm hz
      exact g2 i (by omega)
/-- what fits after a step made the pair alike -/
theorem step_sol {X : List Nat} (hX : BX X) {S : SS} (hS : S1 X S) {g : Nat → List Nat} {p q : Nat} (hp : p < X.length) (hq : q < X.length) (h0 : (stepM X S p q).2.1 = 0) (H : Sat X (stepM X S p q).1 g) (hk : ∀ z ∈ (stepM X S p q).2.2, exF g (sub' X z.1) = exF g (sub' X z.2)) :
    Sat X S g ∧ exF g (sub' X p) = exF g (sub' X q) := by
  obtain ⟨-, a2, a3⟩ := dp_ok hX hS hp
  obtain ⟨-, b2, b3⟩ := dp_ok hX hS hq
  have fin : Sat X S g → exF g (sub' X (dp X S p)) = exF g (sub' X (dp X S q)) → Sat X S g ∧ exF g (sub' X p) = exF g (sub' X q) := fun H e =>
    ⟨H, (sat_dpF hX hS H 9 p hp).symm.trans (e.trans (sat_dpF hX hS H 9 q hq))⟩
  unfold stepM at h0 H hk
  generalize dp X S p = a at a2 a3 fin h0 H hk
  generalize dp X S q = b at b2 b3 fin h0 H hk
  by_cases ca : gl X a < 10
  · have ea := exF_nm hX g a3 ca
    rw [if_pos ca] at h0 H hk
    by_cases cb : gl X b < 10
    · have eb := exF_nm hX g b3 cb
      rw [if_pos cb] at h0 H hk
      by_cases c1 : gl X b < gl X a
      · rw [if_pos c1] at H
        obtain ⟨H1, H2⟩ := sat_dn (a2 ca) H
        exact fin H1 (by rw [ea, H2])
      · rw [if_neg c1] at H
        by_cases c2 : gl X a < gl X b
        · rw [if_pos c2] at H
          obtain ⟨H1, H2⟩ := sat_dn (b2 cb) H
          exact fin H1 (by rw [eb, H2])
        · rw [if_neg c2] at H
          have e : gl X a = gl X b := by omega
          exact fin H (by rw [ea, eb, e])
    · rw [if_neg cb] at h0 H hk
      by_cases w : isWi (smO X S) (gl X a) (sub' X b) = true
      · rw [if_pos w] at h0
        cases h0
      · rw [if_neg w] at H
        obtain ⟨H1, H2⟩ := sat_dn (a2 ca) H
        exact fin H1 (by rw [ea, H2])
  · rw [if_neg ca] at h0 H hk
    by_cases cb : gl X b < 10
    · have eb := exF_nm hX g b3 cb
      rw [if_pos cb] at h0 H hk
      by_cases w : isWi (smO X S) (gl X b) (sub' X a) = true
      · rw [if_pos w] at h0
        cases h0
      · rw [if_neg w] at H
        obtain ⟨H1, H2⟩ := sat_dn (b2 cb) H
        exact fin H1 (by rw [eb, H2])
    · rw [if_neg cb] at h0 H hk
      by_cases e : gl X a = gl X b
      · rw [if_pos e] at H hk
        refine fin H (exF_parts hX a3 b3 (by omega) e (fun j hj => ?_))
        have hm : (ko X a j, ko X b j) ∈ kdL X a b (ga X a) 0 := by
          have := kdL_get X a b (ga X a) 0 j hj
          rw [Nat.zero_add] at this
          exact List.mem_of_getElem? this
        exact hk _ hm
      · rw [if_neg e] at h0
        cases h0
theorem run_sat {X : List Nat} (hX : BX X) {g : Nat → List Nat} (hg : ∀ x, x < 8 → TW (g x)) : ∀ (n : Nat) (S : SS) (m : Nat) (ps : PL2) (S' : SS) (w m' : Nat), runM X n S m ps = some (S', w, m') → S1 X S → Sat X S g → (∀ z ∈ ps, z.1 < X.length ∧ z.2 < X.length ∧ exF g (sub' X z.1) = exF g (sub' X z.2)) → w = 0 ∧ Sat X S' g := by
  intro n
  induction n with
  | zero =>
    intro S m ps S' w m' h hS H hz
    cases ps with
    | nil =>
      cases h
      exact ⟨rfl, H⟩
    | cons z r => cases h
  | succ n ih =>
    intro S m ps S' w m' h hS H hz
    cases ps with
    | nil =>
      cases h
      exact ⟨rfl, H⟩
    | cons z r =>
      obtain ⟨z1, z2, z3⟩ := hz z List.mem_cons_self
      obtain ⟨s1, s2, -, -⟩ := stepM_ok hX hS z1 z2
      obtain ⟨t1, t2, t3⟩ := step_sat hX hS hg H z1 z2 z3
      rw [runM] at h
      split at h
      · cases h
      · first | rw [if_pos t1] at h | skip
        refine ih _ _ _ _ _ _ h s1 t2 (fun y hy => ?_)
        rcases List.mem_append.mp hy with q | q
        · exact ⟨(s2 y q).1, (s2 y q).2, t3 y q⟩
        · exact hz y (List.mem_cons_of_mem _ q)
theorem run_sol {X : List Nat} (hX : BX X) {g : Nat → List Nat} : ∀ (n : Nat) (S : SS) (m : Nat) (ps : PL2) (S' : SS) (m' : Nat), runM X n S m ps = some (S', 0, m') → S1 X S → Sat X S' g → (∀ z ∈ ps, z.1 < X.length ∧ z.2 < X.length) → Sat X S g ∧ ∀ z ∈ ps, exF g (sub' X z.1) = exF g (sub' X z.2) := by
  intro n
  induction n with
  | zero =>
    intro S m ps S' m' h hS H hz
    cases ps with
    | nil =>
      cases h
      exact ⟨H, fun z hz => by cases hz⟩
    | cons z r => cases h
  | succ n ih =>
    intro S m ps S' m' h hS H hz
    cases ps with
    | nil =>
      cases h
      exact ⟨H, fun z hz => by cases hz⟩
    | cons z r =>
      obtain ⟨z1, z2⟩ := hz z List.mem_cons_self
      obtain ⟨s1, s2, -, -⟩ := stepM_ok hX hS z1 z2
      rw [runM] at h
      split at h
      · cases h
      · by_cases h0 : (stepM X S z.1 z.2).2.1 = 0
        · rw [if_pos h0] at h
          obtain ⟨i1, i2⟩ := ih _ _ _ _ _ h s1 H (fun y hy => (List.mem_append.mp hy).elim (fun q => s2 y q) (fun q => hz y (List.mem_cons_of_mem _ q)))
          obtain ⟨t1, t2⟩ := step_sol hX hS z1 z2 h0 i1 (fun y hy => i2 y (List.mem_append_left _ hy))
          refine ⟨t1, fun y hy => ?_⟩
          rcases List.mem_cons.mp hy with q | q
          · rw [q]
            exact t2
          · exact i2 y (List.mem_append_right _ q)
        · rw [if_neg h0] at h
          exact absurd (Prod.mk.inj (Prod.mk.inj (Option.some.inj h)).2).1 h0
/-- a function of names that makes two terms alike -/
def Uni (one other : List Nat) (g : Nat → List Nat) : Prop := (∀ x, x < 8 → TW (g x)) ∧ exF g one = exF g other
theorem ExP.sat {X : List Nat} {S : SS} {E : Nat → List Nat} (h : ExP X S E) : Sat X S E := fun x q e => by
  have := h x
  rw [e] at this
  exact this
theorem PEs.uni {one other : List Nat} (t1 : TW one ∧ one.length ≤ 16) (t2 : TW other ∧ other.length ≤ 16) {E : Nat → List Nat} (h : PEs one other E) : Uni one other E := by
  obtain ⟨bY, e1, e2⟩ := BY_of t1 t2
  obtain ⟨G, S, -, -, hr, hS, hA, -, hE⟩ := h
  refine ⟨ExP.tw bY.1 hS hA hE, ?_⟩
  have n1 := bY.2.2.2.1
  have this : exF E (sub' (one ++ other) 0) = exF E (sub' (one ++ other) one.length) := (run_sol bY.1 _ _ _ _ _ _ hr (fun x q z => by cases z) hE.sat (fun z hz => by
    rw [List.mem_singleton.mp hz]
    exact ⟨by show 0 < _; omega, n1⟩)).2 _ (List.mem_singleton.mpr rfl)
  rw [e1, e2] at this
  exact this
theorem PEc.uni {one other : List Nat} (t1 : TW one ∧ one.length ≤ 16) (t2 : TW other ∧ other.length ≤ 16) {E : Nat → List Nat} (h : PEc one other E) : Uni one other E := by
  obtain ⟨bY, e1, e2⟩ := BY_of t1 t2
  obtain ⟨k, S, M, A, sk, hE⟩ := h
  refine ⟨ExP.tw bY.1 sk.s1 (SKP.ac bY.1 sk M.1 A) hE, ?_⟩
  have n1 := bY.2.2.2.1
  have := SKP.same bY.1 sk M.1 A hE 0 one.length (by omega) n1 M.1.1
  rw [e1, e2] at this
  exact this
/-- what makes alike comes from what steps tell -/
theorem sat_mgu {X : List Nat} (hX : BX X) {S : SS} (hS : S1 X S) (hA : Ac X S) {E g : Nat → List Nat} (hE : ExP X S E) (H : Sat X S g) : ∀ x, x < 10 → exF g (E x) = g x := by
  obtain ⟨rk, K, -, hR⟩ := Ac.rk hX hS hA
  have key : ∀ n x, rk x < n → x < 10 → exF g (E x) = g x := by
    intro n
    induction n with
    | zero => intro x h; omega
    | succ n ih =>
      intro x hn hx
      have e := hE x
      cases es : S x with
      | none =>
        rw [es] at e
        rw [e]
        show exN g x ++ [] = g x
        rw [List.append_nil]
        exact if_pos hx
      | some q =>
        rw [es] at e
        have e' : E x = exF E (sub' X q) := e
        rw [e', H x q es]
        have inner : ∀ xs : List Nat, (∀ y ∈ xs, y < 10 → exF g (E y) = g y) → exF g (exF E xs) = exF g xs := by
          intro xs
          induction xs with
          | nil => intro _; rfl
          | cons y r ihr =>
            intro hy
            rw [exF_cons, exF_app, exF_cons, ihr (fun z hz => hy z (List.mem_cons_of_mem _ hz))]
            congr 1
            by_cases c : y < 10
            · have a1 : exN E y = E y := if_pos c
              have a2 : exN g y = g y := if_pos c
              rw [a1, a2]
              exact hy y List.mem_cons_self c
            · have a1 : exN E y = [y] := if_neg c
              have a2 : exN g y = [y] := if_neg c
              rw [a1, a2]
              show exN g y ++ [] = _
              rw [a2]
              rfl
        exact inner _ (fun y hy hy10 => ih y (by have := hR x q es y hy hy10; omega) hy10)
  intro x hx
  exact key (rk x + 1) x (Nat.lt_succ_self _) hx
/-- a name that another one stands for at last is not greater -/
theorem ex_least {X : List Nat} (hX : BX X) {S : SS} (hS : S1 X S) {E : Nat → List Nat} (hE : ExP X S E) : ∀ n z y, z < n → y < 10 → E z = [y] → y ≤ z := by
  intro n
  induction n with
  | zero => intro z y h; omega
  | succ n ih =>
    intro z y hn hy he
    have e := hE z
    cases es : S z with
    | none =>
      rw [es] at e
      rw [e] at he
      cases he
      exact Nat.le_refl _
    | some q =>
      rw [es] at e
      have e' : E z = exF E (sub' X q) := e
      obtain ⟨-, q2, q3⟩ := hS z q es
      by_cases c : gl X q < 10
      · rw [exF_nm hX E q2 c] at e'
        have := ih (gl X q) y (by have := q3 c; omega) hy (by rw [← e']; exact he)
        have := q3 c
        omega
      · rw [exF_hd hX E q2 (by omega), he] at e'
        have := (List.cons.inj e').1
        omega
/-- the names that are left stand for nothing -/
theorem ex_left {X : List Nat} (hX : BX X) {S : SS} (hS : S1 X S) (hA : Ac X S) {E : Nat → List Nat} (hE : ExP X S E) : ∀ x y, y ∈ E x → y < 10 → S y = none := by
  obtain ⟨rk, K, -, hR⟩ := Ac.rk hX hS hA
  have key : ∀ n x, rk x < n → ∀ y, y ∈ E x → y < 10 → S y = none := by
    intro n
    induction n with
    | zero => intro x h; omega
    | succ n ih =>
      intro x hn y hm hy
      have e := hE x
      cases es : S x with
      | none =>
        rw [es] at e
        rw [e] at hm
        rw [List.mem_singleton.mp hm]
        exact es
      | some q =>
        rw [es] at e
        have e' : E x = exF E (sub' X q) := e
        rw [e'] at hm
        obtain ⟨z, hz, hm2⟩ := List.mem_flatMap.mp hm
        by_cases c : z < 10
        · have a1 : exN E z = E z := if_pos c
          rw [a1] at hm2
          exact ih z (by have := hR x q es z hz c; omega) y hm2 hy
        · have a1 : exN E z = [z] := if_neg c
          rw [a1] at hm2
          have := List.mem_singleton.mp hm2
          omega
  intro x y hm hy
  exact key (rk x + 1) x (Nat.lt_succ_self _) y hm hy
theorem exF_self {g : Nat → List Nat} : ∀ {xs : List Nat}, (∀ y ∈ xs, y < 10 → g y = [y]) → exF g xs = xs
  | [], _ => rfl
  | x :: r, h => by
    rw [exF_cons, exF_self (fun y hy => h y (List.mem_cons_of_mem _ hy))]
    have e : exN g x = [x] := by
      by_cases c : x < 10
      · have a1 : exN g x = g x := if_pos c
        rw [a1]
        exact h x List.mem_cons_self c
      · exact if_neg c
    rw [e]
    rfl
/-- two most general ones, both by least names, are the same -/
theorem mgu_same {X : List Nat} (hX : BX X) {S S' : SS} (hS : S1 X S) (hS' : S1 X S') (hA : Ac X S) (hA' : Ac X S') {E E' : Nat → List Nat} (hE : ExP X S E) (hE' : ExP X S' E') (H : Sat X S E') (H' : Sat X S' E) : ∀ x, x < 8 → E x = E' x := by
  intro x hx
  have m1 := sat_mgu hX hS hA hE H
  have m2 := sat_mgu hX hS' hA' hE' H'
  have tw := ExP.tw hX hS hA hE
  have tw' := ExP.tw hX hS' hA' hE'
  rw [← m1 x (by omega)]
  refine (exF_self (fun y hy hy10 => ?_)).symm
  have ey : E y = [y] := by
    have := hE y
    rw [ex_left hX hS hA hE x y hy hy10] at this
    exact this
  have hy8 : y < 8 := by rcases (tw x hx).2 y hy with q | q <;> omega
  have e2 := m2 y hy10
  rw [ey] at e2
  have hl := exF_len tw (xs := E' y) (tw' y hy8).2
  rw [e2] at hl
  have hp := (tw' y hy8).pos
  obtain ⟨z, hz⟩ : ∃ z, E' y = [z] := by
    cases ee : E' y with
    | nil => rw [ee] at hp; simp at hp
    | cons z r =>
      rw [ee] at hl
      have : r = [] := List.length_eq_zero_iff.mp (by have h3 : r.length + 1 ≤ 1 := hl; omega)
      exact ⟨z, by rw [this]⟩
  rw [hz] at e2
  have e3 : exN E z = [y] := by
    have : exN E z ++ [] = [y] := e2
    rwa [List.append_nil] at this
  by_cases c : z < 10
  · have a1 : exN E z = E z := if_pos c
    rw [a1] at e3
    have l1 := ex_least hX hS hE (z + 1) z y (Nat.lt_succ_self _) hy10 e3
    have l2 := ex_least hX hS' hE' (y + 1) y z (Nat.lt_succ_self _) c hz
    rw [hz, show z = y by omega]
  · have a1 : exN E z = [z] := if_neg c
    rw [a1] at e3
    rw [hz]
    exact e3
theorem fsF_ex {p : Nat → Bool} : ∀ (n k : Nat), (∃ i, i < n ∧ p (k + i) = true) → ∃ j, fsF p n k = some j ∧ p j = true ∧ j < k + n
  | 0, _, ⟨i, h, _⟩ => absurd h (Nat.not_lt_zero _)
  | n + 1, k, ⟨i, h, hp⟩ => by
    unfold fsF
    by_cases c : p k = true
    · rw [if_pos c]
      exact ⟨k, rfl, c, by omega⟩
    · rw [if_neg c]
      have hi : i ≠ 0 := fun z => c (by rw [z] at hp; exact hp)
      obtain ⟨j, j1, j2, j3⟩ := fsF_ex n (k + 1) ⟨i - 1, by omega, by rw [show k + 1 + (i - 1) = k + i by omega]; exact hp⟩
      exact ⟨j, j1, j2, by omega⟩
/-- a class named by its first place -/
noncomputable def clsF (R : Nat → Nat → Prop) (n p : Nat) : Nat := by
  classical
  exact (fsF (fun q => decide (R p q)) n 0).getD 0
theorem clsF_iff {R : Nat → Nat → Prop} (rf : ∀ a, R a a) (sy : ∀ a b, R a b → R b a) (tr : ∀ a b c, R a b → R b c → R a c) {n p q : Nat} (hp : p < n) (hq : q < n) : clsF R n p = clsF R n q ↔ R p q := by
  classical
  have ex : ∀ u, u < n → R u (clsF R n u) := fun u hu => by
    obtain ⟨j, j1, j2, -⟩ := fsF_ex (p := fun q => decide (R u q)) n 0 ⟨u, hu, by rw [Nat.zero_add]; exact decide_eq_true (rf u)⟩
    have e : clsF R n u = j := by
      show (fsF (fun q => decide (R u q)) n 0).getD 0 = j
      rw [j1]
      rfl
    rw [e]
    exact of_decide_eq_true j2
  constructor
  · intro h
    have a := ex p hp
    rw [h] at a
    exact tr _ _ _ a (sy _ _ (ex q hq))
  · intro h
    have e : R p = R q := funext (fun u => propext ⟨fun z => tr _ _ _ (sy _ _ h) z, fun z => tr _ _ _ h z⟩)
    unfold clsF
    rw [e]
/-- the least classes, where there are any -/
theorem MnK.ex {X : List Nat} {n1 : Nat} (h0 : 0 < X.length) (hn : n1 < X.length) (hX : BX X) {k0 : Nat → Nat} (G0 : GdK X n1 k0) : ∃ k, MnK X n1 k := by
  have rf : ∀ a, ∀ k', GdK X n1 k' → k' a = k' a := fun a k' _ => rfl
  have sy : ∀ a b, (∀ k', GdK X n1 k' → k' a = k' b) → ∀ k', GdK X n1 k' → k' b = k' a := fun a b h k' g => (h k' g).symm
  have tr : ∀ a b c, (∀ k', GdK X n1 k' → k' a = k' b) → (∀ k', GdK X n1 k' → k' b = k' c) → ∀ k', GdK X n1 k' → k' a = k' c := fun a b c h1 h2 k' g => (h1 k' g).trans (h2 k' g)
  have key : ∀ {p q : Nat}, p < X.length → q < X.length → (clsF (fun a b => ∀ k', GdK X n1 k' → k' a = k' b) X.length p = clsF (fun a b => ∀ k', GdK X n1 k' → k' a = k' b) X.length q ↔ ∀ k', GdK X n1 k' → k' p = k' q) := fun hp hq => clsF_iff rf sy tr hp hq
  refine ⟨clsF (fun a b => ∀ k', GdK X n1 k' → k' a = k' b) X.length, ⟨(key h0 hn).mpr (fun k' g => g.1), fun p q hp hq e => (key hp hq).mpr (fun k' g => g.2.1 p q hp hq e), fun p q hp hq e a1 a2 => ?_⟩, fun k' g p q hp hq e => (key hp hq).mp e k' g⟩
  have e2 := (key hp hq).mp e
  obtain ⟨g1, -⟩ := G0.2.2 p q hp hq (e2 k0 G0) a1 a2
  refine ⟨g1, fun j hj => (key (ko_mono hX hp hj).2.2.2.2 (ko_mono hX hq (by rw [← ga_eq g1]; exact hj)).2.2.2.2).mpr (fun k' g => (g.2.2 p q hp hq (e2 k' g) a1 a2).2 j hj)⟩
/-- what makes alike gives classes -/
theorem Uni.cls {one other : List Nat} (t1 : TW one ∧ one.length ≤ 16) (t2 : TW other ∧ other.length ≤ 16) {g : Nat → List Nat} (h : Uni one other g) : ∃ k, (∀ p q, p < (one ++ other).length → q < (one ++ other).length → k p = k q → exF g (sub' (one ++ other) p) = exF g (sub' (one ++ other) q)) ∧ GdK (one ++ other) one.length k ∧ AcK (one ++ other) k := by
  obtain ⟨bY, e1, e2⟩ := BY_of t1 t2
  obtain ⟨hg, hu⟩ := h
  have hX := bY.1
  have n1 : one.length < (one ++ other).length := bY.2.2.2.1
  have key : ∀ {p q : Nat}, p < (one ++ other).length → q < (one ++ other).length → (clsF (fun a b => exF g (sub' (one ++ other) a) = exF g (sub' (one ++ other) b)) (one ++ other).length p = clsF (fun a b => exF g (sub' (one ++ other) a) = exF g (sub' (one ++ other) b)) (one ++ other).length q ↔ exF g (sub' (one ++ other) p) = exF g (sub' (one ++ other) q)) := fun hp hq => clsF_iff (R := fun a b => exF g (sub' (one ++ other) a) = exF g (sub' (one ++ other) b)) (fun _ => rfl) (fun _ _ h => h.symm) (fun _ _ _ h1 h2 => h1.trans h2) hp hq
  refine ⟨_, fun p q hp hq e => (key hp hq).mp e, ⟨(key (by omega) n1).mpr (by rw [e1, e2]; exact hu), fun p q hp hq e => (key hp hq).mpr (by rw [e]), fun p q hp hq e a1 a2 => ?_⟩, fun p => (exF g (sub' (one ++ other) p)).length, fun p q hp hq e => congrArg List.length ((key hp hq).mp e), fun p hp j hj => ?_⟩
  · obtain ⟨g1, g2⟩ := exF_heads hX hg hp hq a1 a2 ((key hp hq).mp e)
    exact ⟨g1, fun j hj => (key (ko_mono hX hp hj).2.2.2.2 (ko_mono hX hq (by rw [← ga_eq g1]; exact hj)).2.2.2.2).mpr (g2 j hj)⟩
  · have h10 : 10 ≤ gl (one ++ other) p := by
      rcases Nat.lt_or_ge (gl (one ++ other) p) 10 with z | z
      · rw [ga_name z] at hj
        exact absurd hj (Nat.not_lt_zero _)
      · exact z
    have := cK_len (W := fun q => exF g (sub' (one ++ other) q)) (X := one ++ other) (p := p) (ga (one ++ other) p) 0 j (Nat.zero_le _) (by omega)
    show (exF g (sub' (one ++ other) (ko (one ++ other) p j))).length < (exF g (sub' (one ++ other) p)).length
    rw [exF_hd hX g hp h10, List.length_cons]
    exact Nat.lt_succ_of_le this
theorem Uni.pec {one other : List Nat} (t1 : TW one ∧ one.length ≤ 16) (t2 : TW other ∧ other.length ≤ 16) {g : Nat → List Nat} (h : Uni one other g) : ∃ E, PEc one other E := by
  obtain ⟨bY, e1, e2⟩ := BY_of t1 t2
  have n1 : one.length < (one ++ other).length := bY.2.2.2.1
  obtain ⟨k0, -, G0, rk, r1, r2⟩ := h.cls t1 t2
  obtain ⟨k, M⟩ := MnK.ex (by omega) n1 bY.1 G0
  exact PEc.of t1 t2 M ⟨rk, fun p q hp hq e => r1 p q hp hq (M.2 k0 G0 p q hp hq e), r2⟩
theorem Uni.pes {one other : List Nat} (t1 : TW one ∧ one.length ≤ 16) (t2 : TW other ∧ other.length ≤ 16) {g : Nat → List Nat} (h : Uni one other g) : ∃ E, PEs one other E := by
  obtain ⟨bY, e1, e2⟩ := BY_of t1 t2
  have n1 : one.length < (one ++ other).length := bY.2.2.2.1
  obtain ⟨G, S, q1, q2, q3, q4, q5, q6, q7⟩ := runM_ok t1 t2
  have hw := (run_sat bY.1 h.1 _ _ _ _ _ _ _ q7 (fun x q z => by cases z) (fun x q z => by cases z) (fun z hz => by
    rw [List.mem_singleton.mp hz]
    exact ⟨by show 0 < _; omega, n1, by show exF g (sub' _ 0) = exF g (sub' _ one.length); rw [e1, e2]; exact h.2⟩)).1
  obtain ⟨E, pe⟩ := (stepsB t1 t2 q1 q3 q4 q6 q7 (x := 0) rfl).mp (decide_eq_true hw)
  unfold PEx at pe
  rw [if_pos rfl] at pe
  exact ⟨E, pe⟩
/-- steps and classes tell the same -/
theorem PEs.same {one other : List Nat} (t1 : TW one ∧ one.length ≤ 16) (t2 : TW other ∧ other.length ≤ 16) {E E' : Nat → List Nat} (h : PEs one other E) (h' : PEc one other E') : ∀ x, x < 8 → E x = E' x := by
  have u := h.uni t1 t2
  have u' := h'.uni t1 t2
  obtain ⟨bY, e1, e2⟩ := BY_of t1 t2
  have n1 : one.length < (one ++ other).length := bY.2.2.2.1
  obtain ⟨kE, c1, c2, c3⟩ := u.cls t1 t2
  obtain ⟨G, S, -, -, hr, hS, hA, -, hE⟩ := h
  obtain ⟨k, S', M, A, sk, hE'⟩ := h'
  refine mgu_same bY.1 hS sk.s1 hA (SKP.ac bY.1 sk M.1 A) hE hE' ?_ ?_
  · exact (run_sat bY.1 u'.1 _ _ _ _ _ _ _ hr (fun x q z => by cases z) (fun x q z => by cases z) (fun z hz => by
      rw [List.mem_singleton.mp hz]
      exact ⟨by show 0 < _; omega, n1, by show exF E' (sub' _ 0) = exF E' (sub' _ one.length); rw [e1, e2]; exact u'.2⟩)).2
  · intro x q e
    obtain ⟨x8, q2, p, p1, p2, p3, -⟩ := sk.1 x q e
    have := c1 p q p1 q2 (M.2 kE c2 p q p1 q2 p3)
    rw [exF_nm bY.1 E p1 (by omega), p2] at this
    exact this
theorem canB_same {one other : List Nat} (t1 : TW one ∧ one.length ≤ 16) (t2 : TW other ∧ other.length ≤ 16) : (∃ E, PEs one other E) ↔ ∃ E, PEc one other E := ⟨fun ⟨_, h⟩ => (h.uni t1 t2).pec t1 t2, fun ⟨_, h⟩ => (h.uni t1 t2).pes t1 t2⟩
