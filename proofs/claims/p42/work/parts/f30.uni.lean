section Uf30uni
/-! what makes two terms alike: steps and classes tell the same (written by hand) -/
/-- what is told of names fits what names stand for -/
def Sat (X : List Nat) (S : SS) (g : Nat → List Nat) : Prop := ∀ x q, S x = some q → g x = exF g (sub' X q)
theorem sat_dpF {X : List Nat} (hX : BX X) {S : SS} (hS : S1 X S) {g : Nat → List Nat} (H : Sat X S g) : ∀ f p, p < X.length → exF g (sub' X (dpF X S f p)) = exF g (sub' X p)
  | 0, _, _ => rfl
  | f + 1, p, hp => by
    unfold dpF
    by_cases c : gl X p < 10
    · rw [if_pos c]
      cases e : S (gl X p) with
      | none => rfl
      | some q =>
        show exF g (sub' X (dpF X S f q)) = _
        rw [sat_dpF hX hS H f q (hS _ _ e).2.1, exF_nm hX g hp c, H _ _ e]
    · rw [if_neg c]
theorem cK_inj {W : Nat → List Nat} {X : List Nat} {p q : Nat} : ∀ (n j : Nat), (∀ i, j ≤ i → i < j + n → endL 1 (W (ko X p i)) = some (W (ko X p i)).length ∧ endL 1 (W (ko X q i)) = some (W (ko X q i)).length) → cK W X p n j = cK W X q n j → ∀ i, j ≤ i → i < j + n → W (ko X p i) = W (ko X q i)
  | 0, j, _, _, i, h1, h2 => by omega
  | n + 1, j, hw, h, i, h1, h2 => by
    have e : W (ko X p j) ++ cK W X p n (j + 1) = W (ko X q j) ++ cK W X q n (j + 1) := h
    obtain ⟨a1, a2⟩ := hw j (Nat.le_refl _) (by omega)
    have b1 := endL_app _ (cK W X p n (j + 1)) _ _ a1
    have b2 := endL_app _ (cK W X q n (j + 1)) _ _ a2
    rw [e, b2] at b1
    have hl : (W (ko X p j)).length = (W (ko X q j)).length := (Option.some.inj b1).symm
    obtain ⟨c1, c2⟩ := List.append_inj e hl
    rcases Nat.lt_or_ge j i with z | z
    · exact cK_inj n (j + 1) (fun i h1 h2 => hw i (by omega) (by omega)) c2 i (by omega) (by omega)
    · have e2 : i = j := by omega
      subst e2
      exact c1
theorem cK_len {W : Nat → List Nat} {X : List Nat} {p : Nat} : ∀ (n j i : Nat), j ≤ i → i < j + n → (W (ko X p i)).length ≤ (cK W X p n j).length
  | 0, j, i, h1, h2 => by omega
  | n + 1, j, i, h1, h2 => by
    show _ ≤ (W (ko X p j) ++ cK W X p n (j + 1)).length
    rw [List.length_append]
    rcases Nat.lt_or_ge j i with z | z
    · have := cK_len (W := W) (X := X) (p := p) n (j + 1) i (by omega) (by omega)
      omega
    · have e2 : i = j := by omega
      subst e2
      omega
theorem exF_TW {X : List Nat} (hX : BX X) {g : Nat → List Nat} (hg : ∀ x, x < 8 → TW (g x)) {p : Nat} (hp : p < X.length) : TW (exF g (sub' X p)) := by
  have st := sub_TW hX hp
  rw [exF_used g st.2]
  exact TW.used (fun z hz => by
    obtain ⟨x, hx, rfl⟩ := List.mem_map.mp hz
    exact hg x (List.mem_range.mp hx)) (by rw [List.length_map, List.length_range]; omega) st
theorem exF_heads {X : List Nat} (hX : BX X) {g : Nat → List Nat} (hg : ∀ x, x < 8 → TW (g x)) {a b : Nat} (ha : a < X.length) (hb : b < X.length) (h1 : 10 ≤ gl X a) (h2 : 10 ≤ gl X b) (h : exF g (sub' X a) = exF g (sub' X b)) : gl X a = gl X b ∧ ∀ j, j < ga X a → exF g (sub' X (ko X a j)) = exF g (sub' X (ko X b j)) := by
  rw [exF_hd hX g ha h1, exF_hd hX g hb h2] at h
  obtain ⟨e1, e2⟩ := List.cons.inj h
  have eg := ga_eq e1
  rw [← eg] at e2
  refine ⟨e1, fun j hj => ?_⟩
  exact cK_inj (W := fun q => exF g (sub' X q)) _ 0 (fun i _ hi => ⟨(exF_TW hX hg (ko_mono hX ha (j := i) (by omega)).2.2.2.2).1, (exF_TW hX hg (ko_mono hX hb (j := i) (by omega)).2.2.2.2).1⟩) e2 j (Nat.zero_le _) (by omega)
theorem exF_parts {X : List Nat} (hX : BX X) {g : Nat → List Nat} {a b : Nat} (ha : a < X.length) (hb : b < X.length) (h1 : 10 ≤ gl X a) (e : gl X a = gl X b) (h : ∀ j, j < ga X a → exF g (sub' X (ko X a j)) = exF g (sub' X (ko X b j))) : exF g (sub' X a) = exF g (sub' X b) := by
  rw [exF_hd hX g ha h1, exF_hd hX g hb (by omega), ← e, ← ga_eq e]
  congr 1
  exact cK_two (W := fun q => exF g (sub' X q)) _ 0 (fun i _ hi => h i (by omega))
theorem exF_mem {g : Nat → List Nat} : ∀ {xs : List Nat} {y : Nat}, y ∈ xs → y < 10 → (g y).length ≤ (exF g xs).length
  | [], y, h, _ => by cases h
  | x :: r, y, h, hy => by
    rw [exF_cons, List.length_append]
    rcases List.mem_cons.mp h with z | z
    · subst z
      have : exN g y = g y := if_pos hy
      rw [this]
      omega
    · have := exF_mem (g := g) z hy
      omega
theorem wRow_all {P : Nat → Prop} {sm : SM} (hc : ∀ k t, k < 8 → P k → sm.getD k none = some t → ∀ y, y < 10 → y ∈ t → P y) {s : Nat} (hs : ∀ y, y < 10 → bt s y → P y) : ∀ k, k ≤ 8 → ∀ y, y < 10 → bt (wRow sm s k) y → P y
  | 0, _, y, hy, h => hs y hy h
  | k + 1, hk, y, hy, h => by
    have ih := wRow_all hc hs k (by omega)
    unfold wRow wStep at h
    split at h
    · rename_i hb
      cases e : sm.getD k none with
      | none =>
        rw [e] at h
        exact ih y hy h
      | some t =>
        rw [e] at h
        rcases (bt_or _ _ _).mp h with z | z
        · exact ih y hy z
        · exact hc k t (by omega) (ih k (by omega) hb) e y hy ((namesN_mem hy t).mp z)
    · exact ih y hy h
theorem wAll_all {P : Nat → Prop} {sm : SM} (hc : ∀ k t, k < 8 → P k → sm.getD k none = some t → ∀ y, y < 10 → y ∈ t → P y) {s : Nat} (hs : ∀ y, y < 10 → bt s y → P y) : ∀ n y, y < 10 → bt (wAll sm s n) y → P y
  | 0, y, hy, h => hs y hy h
  | n + 1, y, hy, h => wRow_all hc (wAll_all hc hs n) 8 (Nat.le_refl _) y hy h
/-- what stands within a term is shorter than it -/
theorem wi_size {X : List Nat} (hX : BX X) {S : SS} {g : Nat → List Nat} (H : Sat X S g) {x b : Nat} (hx : x < 8) (hb : b < X.length) (hh : 10 ≤ gl X b) (h : isWi (smO X S) x (sub' X b) = true) : (g x).length < (exF g (sub' X b)).length := by
  have h2 : bt (wAll (smO X S) (namesN (sub' X b)) 8) x := by
    have z : wAll (smO X S) (namesN (sub' X b)) 8 >>> x % 2 = 1 := of_decide_eq_true h
    exact z
  refine wAll_all (P := fun y => (g y).length < (exF g (sub' X b)).length) (fun k t hk hP ht y hy hm => ?_) (fun y hy hm => ?_) 8 x (by omega) h2
  · rw [smO_get X S hk] at ht
    cases e : S k with
    | none => rw [e] at ht; cases ht
    | some q =>
      rw [e] at ht
      have e2 : sub' X q = t := Option.some.inj ht
      have e3 := H k q e
      rw [e2] at e3
      have := exF_mem (g := g) hm hy
      rw [← e3] at this
      exact Nat.lt_of_le_of_lt this hP
  · have hm2 := (namesN_mem hy (sub' X b)).mp hm
    rw [sub_cons hX hb] at hm2 ⊢
    rcases List.mem_cons.mp hm2 with z | z
    · omega
    · have := exF_mem (g := g) z hy
      rw [exF_cons, List.length_append]
      have e : exN g (gl X b) = [gl X b] := if_neg (by omega)
      rw [e]
      show _ < 1 + _
      omega
theorem kdL_mm {X : List Nat} {a b : Nat} : ∀ {k j : Nat} {z : Nat × Nat}, z ∈ kdL X a b k j → ∃ i, j ≤ i ∧ i < j + k ∧ z = (ko X a i, ko X b i)
  | 0, j, z, h => by cases h
  | k + 1, j, z, h => by
    rcases List.mem_cons.mp h with q | q
    · exact ⟨j, Nat.le_refl _, by omega, q⟩
    · obtain ⟨i, h1, h2, h3⟩ := kdL_mm q
      exact ⟨i, by omega, by omega, h3⟩
theorem sat_up {X : List Nat} {S : SS} {g : Nat → List Nat} (H : Sat X S g) {x t : Nat} (h : g x = exF g (sub' X t)) : Sat X (upS S x t) g := fun y r hy => by
  unfold upS at hy
  split at hy
  · rename_i ey
    cases hy
    rw [ey]
    exact h
  · exact H y r hy
theorem sat_dn {X : List Nat} {S : SS} {g : Nat → List Nat} {x t : Nat} (hn : S x = none) (H : Sat X (upS S x t) g) : Sat X S g ∧ g x = exF g (sub' X t) :=
  ⟨fun y r hy => H y r (by
    unfold upS
    rw [if_neg (fun z => by rw [z, hn] at hy; cases hy)]
    exact hy), H x t (by unfold upS; rw [if_pos rfl])⟩
/-- a step keeps what makes the pairs alike -/
theorem step_sat {X : List Nat} (hX : BX X) {S : SS} (hS : S1 X S) {g : Nat → List Nat} (hg : ∀ x, x < 8 → TW (g x)) (H : Sat X S g) {p q : Nat} (hp : p < X.length) (hq : q < X.length) (h : exF g (sub' X p) = exF g (sub' X q)) :
    (stepM X S p q).2.1 = 0 ∧ Sat X (stepM X S p q).1 g ∧ ∀ z ∈ (stepM X S p q).2.2, exF g (sub' X z.1) = exF g (sub' X z.2) := by
  obtain ⟨-, -, a3⟩ := dp_ok hX hS hp
  obtain ⟨-, -, b3⟩ := dp_ok hX hS hq
  have e : exF g (sub' X (dp X S p)) = exF g (sub' X (dp X S q)) := (sat_dpF hX hS H 9 p hp).trans (h.trans (sat_dpF hX hS H 9 q hq).symm)
  unfold stepM
  generalize dp X S p = a at a3 e ⊢
  generalize dp X S q = b at b3 e ⊢
  by_cases ca : gl X a < 10
  · have ea := exF_nm hX g a3 ca
    rw [if_pos ca]
    by_cases cb : gl X b < 10
    · have eb := exF_nm hX g b3 cb
      rw [if_pos cb]
      by_cases c1 : gl X b < gl X a
      · rw [if_pos c1]
        exact ⟨rfl, sat_up H (by rw [← ea, e]), fun z hz => by cases hz⟩
      · rw [if_neg c1]
        by_cases c2 : gl X a < gl X b
        · rw [if_pos c2]
          exact ⟨rfl, sat_up H (by rw [← eb, e]), fun z hz => by cases hz⟩
        · rw [if_neg c2]
          exact ⟨rfl, H, fun z hz => by cases hz⟩
    · rw [if_neg cb]
      have hw : ¬ isWi (smO X S) (gl X a) (sub' X b) = true := fun w => by
        have := wi_size hX H (gl_8 hX a3 ca) b3 (by omega) w
        rw [← e, ea] at this
        omega
      rw [if_neg hw]
      exact ⟨rfl, sat_up H (by rw [← ea, e]), fun z hz => by cases hz⟩
  · rw [if_neg ca]
    by_cases cb : gl X b < 10
    · have eb := exF_nm hX g b3 cb
      rw [if_pos cb]
      have hw : ¬ isWi (smO X S) (gl X b) (sub' X a) = true := fun w => by
        have := wi_size hX H (gl_8 hX b3 cb) a3 (by omega) w
        rw [e, eb] at this
        omega
      rw [if_neg hw]
      exact ⟨rfl, sat_up H (by rw [← eb, e]), fun z hz => by cases hz⟩
    · rw [if_neg cb]
      obtain ⟨g1, g2⟩ := exF_heads hX hg a3 b3 (by omega) (by omega) e
      rw [if_pos g1]
      refine ⟨rfl, H, fun z hz => ?_⟩
      obtain ⟨i, h1, h2, rfl⟩ := kdL_mm hz
      exact g2 i (by omega)
/-- what fits after a step made the pair alike -/
theorem step_sol {X : List Nat} (hX : BX X) {S : SS} (hS : S1 X S) {g : Nat → List Nat} {p q : Nat} (hp : p < X.length) (hq : q < X.length) (h0 : (stepM X S p q).2.1 = 0) (H : Sat X (stepM X S p q).1 g) (hk : ∀ z ∈ (stepM X S p q).2.2, exF g (sub' X z.1) = exF g (sub' X z.2)) :
    Sat X S g ∧ exF g (sub' X p) = exF g (sub' X q) := by
  obtain ⟨-, a2, a3⟩ := dp_ok hX hS hp
  obtain ⟨-, b2, b3⟩ := dp_ok hX hS hq
  have fin : Sat X S g → exF g (sub' X (dp X S p)) = exF g (sub' X (dp X S q)) → Sat X S g ∧ exF g (sub' X p) = exF g (sub' X q) := fun H e =>
    ⟨H, (sat_dpF hX hS H 9 p hp).symm.trans (e.trans (sat_dpF hX hS H 9 q hq))⟩
  unfold stepM at h0 H hk
  generalize dp X S p = a at a2 a3 fin h0 H hk
  generalize dp X S q = b at b2 b3 fin h0 H hk
  by_cases ca : gl X a < 10
  · have ea := exF_nm hX g a3 ca
    rw [if_pos ca] at h0 H hk
    by_cases cb : gl X b < 10
    · have eb := exF_nm hX g b3 cb
      rw [if_pos cb] at h0 H hk
      by_cases c1 : gl X b < gl X a
      · rw [if_pos c1] at H
        obtain ⟨H1, H2⟩ := sat_dn (a2 ca) H
        exact fin H1 (by rw [ea, H2])
      · rw [if_neg c1] at H
        by_cases c2 : gl X a < gl X b
        · rw [if_pos c2] at H
          obtain ⟨H1, H2⟩ := sat_dn (b2 cb) H
          exact fin H1 (by rw [eb, H2])
        · rw [if_neg c2] at H
          have e : gl X a = gl X b := by omega
          exact fin H (by rw [ea, eb, e])
    · rw [if_neg cb] at h0 H hk
      by_cases w : isWi (smO X S) (gl X a) (sub' X b) = true
      · rw [if_pos w] at h0
        cases h0
      · rw [if_neg w] at H
        obtain ⟨H1, H2⟩ := sat_dn (a2 ca) H
        exact fin H1 (by rw [ea, H2])
  · rw [if_neg ca] at h0 H hk
    by_cases cb : gl X b < 10
    · have eb := exF_nm hX g b3 cb
      rw [if_pos cb] at h0 H hk
      by_cases w : isWi (smO X S) (gl X b) (sub' X a) = true
      · rw [if_pos w] at h0
        cases h0
      · rw [if_neg w] at H
        obtain ⟨H1, H2⟩ := sat_dn (b2 cb) H
        exact fin H1 (by rw [eb, H2])
    · rw [if_neg cb] at h0 H hk
      by_cases e : gl X a = gl X b
      · rw [if_pos e] at H hk
        refine fin H (exF_parts hX a3 b3 (by omega) e (fun j hj => ?_))
        have hm : (ko X a j, ko X b j) ∈ kdL X a b (ga X a) 0 := by
          have := kdL_get X a b (ga X a) 0 j hj
          rw [Nat.zero_add] at this
          exact List.mem_of_getElem? this
        exact hk _ hm
      · rw [if_neg e] at h0
        cases h0
theorem run_sat {X : List Nat} (hX : BX X) {g : Nat → List Nat} (hg : ∀ x, x < 8 → TW (g x)) : ∀ (n : Nat) (S : SS) (m : Nat) (ps : PL2) (S' : SS) (w m' : Nat), runM X n S m ps = some (S', w, m') → S1 X S → Sat X S g → (∀ z ∈ ps, z.1 < X.length ∧ z.2 < X.length ∧ exF g (sub' X z.1) = exF g (sub' X z.2)) → w = 0 ∧ Sat X S' g := by
  intro n
  induction n with
  | zero =>
    intro S m ps S' w m' h hS H hz
    cases ps with
    | nil =>
      cases h
      exact ⟨rfl, H⟩
    | cons z r => cases h
  | succ n ih =>
    intro S m ps S' w m' h hS H hz
    cases ps with
    | nil =>
      cases h
      exact ⟨rfl, H⟩
    | cons z r =>
      obtain ⟨z1, z2, z3⟩ := hz z List.mem_cons_self
      obtain ⟨s1, s2, -, -⟩ := stepM_ok hX hS z1 z2
      obtain ⟨t1, t2, t3⟩ := step_sat hX hS hg H z1 z2 z3
      rw [runM] at h
      split at h
      · cases h
      · first | rw [if_pos t1] at h | skip
        refine ih _ _ _ _ _ _ h s1 t2 (fun y hy => ?_)
        rcases List.mem_append.mp hy with q | q
        · exact ⟨(s2 y q).1, (s2 y q).2, t3 y q⟩
        · exact hz y (List.mem_cons_of_mem _ q)
theorem run_sol {X : List Nat} (hX : BX X) {g : Nat → List Nat} : ∀ (n : Nat) (S : SS) (m : Nat) (ps : PL2) (S' : SS) (m' : Nat), runM X n S m ps = some (S', 0, m') → S1 X S → Sat X S' g → (∀ z ∈ ps, z.1 < X.length ∧ z.2 < X.length) → Sat X S g ∧ ∀ z ∈ ps, exF g (sub' X z.1) = exF g (sub' X z.2) := by
  intro n
  induction n with
  | zero =>
    intro S m ps S' m' h hS H hz
    cases ps with
    | nil =>
      cases h
      exact ⟨H, fun z hz => by cases hz⟩
    | cons z r => cases h
  | succ n ih =>
    intro S m ps S' m' h hS H hz
    cases ps with
    | nil =>
      cases h
      exact ⟨H, fun z hz => by cases hz⟩
    | cons z r =>
      obtain ⟨z1, z2⟩ := hz z List.mem_cons_self
      obtain ⟨s1, s2, -, -⟩ := stepM_ok hX hS z1 z2
      rw [runM] at h
      split at h
      · cases h
      · by_cases h0 : (stepM X S z.1 z.2).2.1 = 0
        · rw [if_pos h0] at h
          obtain ⟨i1, i2⟩ := ih _ _ _ _ _ h s1 H (fun y hy => (List.mem_append.mp hy).elim (fun q => s2 y q) (fun q => hz y (List.mem_cons_of_mem _ q)))
          obtain ⟨t1, t2⟩ := step_sol hX hS z1 z2 h0 i1 (fun y hy => i2 y (List.mem_append_left _ hy))
          refine ⟨t1, fun y hy => ?_⟩
          rcases List.mem_cons.mp hy with q | q
          · rw [q]
            exact t2
          · exact i2 y (List.mem_append_right _ q)
        · rw [if_neg h0] at h
          exact absurd (Prod.mk.inj (Prod.mk.inj (Option.some.inj h)).2).1 h0
/-- a function of names that makes two terms alike -/
def Uni (one other : List Nat) (g : Nat → List Nat) : Prop := (∀ x, x < 8 → TW (g x)) ∧ exF g one = exF g other
theorem ExP.sat {X : List Nat} {S : SS} {E : Nat → List Nat} (h : ExP X S E) : Sat X S E := fun x q e => by
  have := h x
  rw [e] at this
  exact this
theorem PEs.uni {one other : List Nat} (t1 : TW one ∧ one.length ≤ 16) (t2 : TW other ∧ other.length ≤ 16) {E : Nat → List Nat} (h : PEs one other E) : Uni one other E := by
  obtain ⟨bY, e1, e2⟩ := BY_of t1 t2
  obtain ⟨G, S, -, -, hr, hS, hA, -, hE⟩ := h
  refine ⟨ExP.tw bY.1 hS hA hE, ?_⟩
  have n1 := bY.2.2.2.1
  have this : exF E (sub' (one ++ other) 0) = exF E (sub' (one ++ other) one.length) := (run_sol bY.1 _ _ _ _ _ _ hr (fun x q z => by cases z) hE.sat (fun z hz => by
    rw [List.mem_singleton.mp hz]
    exact ⟨by show 0 < _; omega, n1⟩)).2 _ (List.mem_singleton.mpr rfl)
  rw [e1, e2] at this
  exact this
theorem PEc.uni {one other : List Nat} (t1 : TW one ∧ one.length ≤ 16) (t2 : TW other ∧ other.length ≤ 16) {E : Nat → List Nat} (h : PEc one other E) : Uni one other E := by
  obtain ⟨bY, e1, e2⟩ := BY_of t1 t2
  obtain ⟨k, S, M, A, sk, hE⟩ := h
  refine ⟨ExP.tw bY.1 sk.s1 (SKP.ac bY.1 sk M.1 A) hE, ?_⟩
  have n1 := bY.2.2.2.1
  have := SKP.same bY.1 sk M.1 A hE 0 one.length (by omega) n1 M.1.1
  rw [e1, e2] at this
  exact this
/-- what makes alike comes from what steps tell -/
theorem sat_mgu {X : List Nat} (hX : BX X) {S : SS} (hS : S1 X S) (hA : Ac X S) {E g : Nat → List Nat} (hE : ExP X S E) (H : Sat X S g) : ∀ x, x < 10 → exF g (E x) = g x := by
  obtain ⟨rk, K, -, hR⟩ := Ac.rk hX hS hA
  have key : ∀ n x, rk x < n → x < 10 → exF g (E x) = g x := by
    intro n
    induction n with
    | zero => intro x h; omega
    | succ n ih =>
      intro x hn hx
      have e := hE x
      cases es : S x with
      | none =>
        rw [es] at e
        rw [e]
        show exN g x ++ [] = g x
        rw [List.append_nil]
        exact if_pos hx
      | some q =>
        rw [es] at e
        have e' : E x = exF E (sub' X q) := e
        rw [e', H x q es]
        have inner : ∀ xs : List Nat, (∀ y ∈ xs, y < 10 → exF g (E y) = g y) → exF g (exF E xs) = exF g xs := by
          intro xs
          induction xs with
          | nil => intro _; rfl
          | cons y r ihr =>
            intro hy
            rw [exF_cons, exF_app, exF_cons, ihr (fun z hz => hy z (List.mem_cons_of_mem _ hz))]
            congr 1
            by_cases c : y < 10
            · have a1 : exN E y = E y := if_pos c
              have a2 : exN g y = g y := if_pos c
              rw [a1, a2]
              exact hy y List.mem_cons_self c
            · have a1 : exN E y = [y] := if_neg c
              have a2 : exN g y = [y] := if_neg c
              rw [a1, a2]
              show exN g y ++ [] = _
              rw [a2]
              rfl
        exact inner _ (fun y hy hy10 => ih y (by have := hR x q es y hy hy10; omega) hy10)
  intro x hx
  exact key (rk x + 1) x (Nat.lt_succ_self _) hx
/-- a name that another one stands for at last is not greater -/
theorem ex_least {X : List Nat} (hX : BX X) {S : SS} (hS : S1 X S) {E : Nat → List Nat} (hE : ExP X S E) : ∀ n z y, z < n → y < 10 → E z = [y] → y ≤ z := by
  intro n
  induction n with
  | zero => intro z y h; omega
  | succ n ih =>
    intro z y hn hy he
    have e := hE z
    cases es : S z with
    | none =>
      rw [es] at e
      rw [e] at he
      cases he
      exact Nat.le_refl _
    | some q =>
      rw [es] at e
      have e' : E z = exF E (sub' X q) := e
      obtain ⟨-, q2, q3⟩ := hS z q es
      by_cases c : gl X q < 10
      · rw [exF_nm hX E q2 c] at e'
        have := ih (gl X q) y (by have := q3 c; omega) hy (by rw [← e']; exact he)
        have := q3 c
        omega
      · rw [exF_hd hX E q2 (by omega), he] at e'
        have := (List.cons.inj e').1
        omega
/-- the names that are left stand for nothing -/
theorem ex_left {X : List Nat} (hX : BX X) {S : SS} (hS : S1 X S) (hA : Ac X S) {E : Nat → List Nat} (hE : ExP X S E) : ∀ x y, y ∈ E x → y < 10 → S y = none := by
  obtain ⟨rk, K, -, hR⟩ := Ac.rk hX hS hA
  have key : ∀ n x, rk x < n → ∀ y, y ∈ E x → y < 10 → S y = none := by
    intro n
    induction n with
    | zero => intro x h; omega
    | succ n ih =>
      intro x hn y hm hy
      have e := hE x
      cases es : S x with
      | none =>
        rw [es] at e
        rw [e] at hm
        rw [List.mem_singleton.mp hm]
        exact es
      | some q =>
        rw [es] at e
        have e' : E x = exF E (sub' X q) := e
        rw [e'] at hm
        obtain ⟨z, hz, hm2⟩ := List.mem_flatMap.mp hm
        by_cases c : z < 10
        · have a1 : exN E z = E z := if_pos c
          rw [a1] at hm2
          exact ih z (by have := hR x q es z hz c; omega) y hm2 hy
        · have a1 : exN E z = [z] := if_neg c
          rw [a1] at hm2
          have := List.mem_singleton.mp hm2
          omega
  intro x y hm hy
  exact key (rk x + 1) x (Nat.lt_succ_self _) y hm hy
theorem exF_self {g : Nat → List Nat} : ∀ {xs : List Nat}, (∀ y ∈ xs, y < 10 → g y = [y]) → exF g xs = xs
  | [], _ => rfl
  | x :: r, h => by
    rw [exF_cons, exF_self (fun y hy => h y (List.mem_cons_of_mem _ hy))]
    have e : exN g x = [x] := by
      by_cases c : x < 10
      · have a1 : exN g x = g x := if_pos c
        rw [a1]
        exact h x List.mem_cons_self c
      · exact if_neg c
    rw [e]
    rfl
/-- two most general ones, both by least names, are the same -/
theorem mgu_same {X : List Nat} (hX : BX X) {S S' : SS} (hS : S1 X S) (hS' : S1 X S') (hA : Ac X S) (hA' : Ac X S') {E E' : Nat → List Nat} (hE : ExP X S E) (hE' : ExP X S' E') (H : Sat X S E') (H' : Sat X S' E) : ∀ x, x < 8 → E x = E' x := by
  intro x hx
  have m1 := sat_mgu hX hS hA hE H
  have m2 := sat_mgu hX hS' hA' hE' H'
  have tw := ExP.tw hX hS hA hE
  have tw' := ExP.tw hX hS' hA' hE'
  rw [← m1 x (by omega)]
  refine (exF_self (fun y hy hy10 => ?_)).symm
  have ey : E y = [y] := by
    have := hE y
    rw [ex_left hX hS hA hE x y hy hy10] at this
    exact this
  have hy8 : y < 8 := by rcases (tw x hx).2 y hy with q | q <;> omega
  have e2 := m2 y hy10
  rw [ey] at e2
  have hl := exF_len tw (xs := E' y) (tw' y hy8).2
  rw [e2] at hl
  have hp := (tw' y hy8).pos
  obtain ⟨z, hz⟩ : ∃ z, E' y = [z] := by
    cases ee : E' y with
    | nil => rw [ee] at hp; simp at hp
    | cons z r =>
      rw [ee] at hl
      have : r = [] := List.length_eq_zero_iff.mp (by have h3 : r.length + 1 ≤ 1 := hl; omega)
      exact ⟨z, by rw [this]⟩
  rw [hz] at e2
  have e3 : exN E z = [y] := by
    have : exN E z ++ [] = [y] := e2
    rwa [List.append_nil] at this
  by_cases c : z < 10
  · have a1 : exN E z = E z := if_pos c
    rw [a1] at e3
    have l1 := ex_least hX hS hE (z + 1) z y (Nat.lt_succ_self _) hy10 e3
    have l2 := ex_least hX hS' hE' (y + 1) y z (Nat.lt_succ_self _) c hz
    rw [hz, show z = y by omega]
  · have a1 : exN E z = [z] := if_neg c
    rw [a1] at e3
    rw [hz]
    exact e3
theorem fsF_ex {p : Nat → Bool} : ∀ (n k : Nat), (∃ i, i < n ∧ p (k + i) = true) → ∃ j, fsF p n k = some j ∧ p j = true ∧ j < k + n
  | 0, _, ⟨i, h, _⟩ => absurd h (Nat.not_lt_zero _)
  | n + 1, k, ⟨i, h, hp⟩ => by
    unfold fsF
    by_cases c : p k = true
    · rw [if_pos c]
      exact ⟨k, rfl, c, by omega⟩
    · rw [if_neg c]
      have hi : i ≠ 0 := fun z => c (by rw [z] at hp; exact hp)
      obtain ⟨j, j1, j2, j3⟩ := fsF_ex n (k + 1) ⟨i - 1, by omega, by rw [show k + 1 + (i - 1) = k + i by omega]; exact hp⟩
      exact ⟨j, j1, j2, by omega⟩
/-- a class named by its first place -/
noncomputable def clsF (R : Nat → Nat → Prop) (n p : Nat) : Nat := by
  classical
  exact (fsF (fun q => decide (R p q)) n 0).getD 0
theorem clsF_iff {R : Nat → Nat → Prop} (rf : ∀ a, R a a) (sy : ∀ a b, R a b → R b a) (tr : ∀ a b c, R a b → R b c → R a c) {n p q : Nat} (hp : p < n) (hq : q < n) : clsF R n p = clsF R n q ↔ R p q := by
  classical
  have ex : ∀ u, u < n → R u (clsF R n u) := fun u hu => by
    obtain ⟨j, j1, j2, -⟩ := fsF_ex (p := fun q => decide (R u q)) n 0 ⟨u, hu, by rw [Nat.zero_add]; exact decide_eq_true (rf u)⟩
    have e : clsF R n u = j := by
      show (fsF (fun q => decide (R u q)) n 0).getD 0 = j
      rw [j1]
      rfl
    rw [e]
    exact of_decide_eq_true j2
  constructor
  · intro h
    have a := ex p hp
    rw [h] at a
    exact tr _ _ _ a (sy _ _ (ex q hq))
  · intro h
    have e : R p = R q := funext (fun u => propext ⟨fun z => tr _ _ _ (sy _ _ h) z, fun z => tr _ _ _ h z⟩)
    unfold clsF
    rw [e]
/-- the least classes, where there are any -/
theorem MnK.ex {X : List Nat} {n1 : Nat} (h0 : 0 < X.length) (hn : n1 < X.length) (hX : BX X) {k0 : Nat → Nat} (G0 : GdK X n1 k0) : ∃ k, MnK X n1 k := by
  have rf : ∀ a, ∀ k', GdK X n1 k' → k' a = k' a := fun a k' _ => rfl
  have sy : ∀ a b, (∀ k', GdK X n1 k' → k' a = k' b) → ∀ k', GdK X n1 k' → k' b = k' a := fun a b h k' g => (h k' g).symm
  have tr : ∀ a b c, (∀ k', GdK X n1 k' → k' a = k' b) → (∀ k', GdK X n1 k' → k' b = k' c) → ∀ k', GdK X n1 k' → k' a = k' c := fun a b c h1 h2 k' g => (h1 k' g).trans (h2 k' g)
  have key : ∀ {p q : Nat}, p < X.length → q < X.length → (clsF (fun a b => ∀ k', GdK X n1 k' → k' a = k' b) X.length p = clsF (fun a b => ∀ k', GdK X n1 k' → k' a = k' b) X.length q ↔ ∀ k', GdK X n1 k' → k' p = k' q) := fun hp hq => clsF_iff rf sy tr hp hq
  refine ⟨clsF (fun a b => ∀ k', GdK X n1 k' → k' a = k' b) X.length, ⟨(key h0 hn).mpr (fun k' g => g.1), fun p q hp hq e => (key hp hq).mpr (fun k' g => g.2.1 p q hp hq e), fun p q hp hq e a1 a2 => ?_⟩, fun k' g p q hp hq e => (key hp hq).mp e k' g⟩
  have e2 := (key hp hq).mp e
  obtain ⟨g1, -⟩ := G0.2.2 p q hp hq (e2 k0 G0) a1 a2
  refine ⟨g1, fun j hj => (key (ko_mono hX hp hj).2.2.2.2 (ko_mono hX hq (by rw [← ga_eq g1]; exact hj)).2.2.2.2).mpr (fun k' g => (g.2.2 p q hp hq (e2 k' g) a1 a2).2 j hj)⟩
/-- what makes alike gives classes -/
theorem Uni.cls {one other : List Nat} (t1 : TW one ∧ one.length ≤ 16) (t2 : TW other ∧ other.length ≤ 16) {g : Nat → List Nat} (h : Uni one other g) : ∃ k, (∀ p q, p < (one ++ other).length → q < (one ++ other).length → k p = k q → exF g (sub' (one ++ other) p) = exF g (sub' (one ++ other) q)) ∧ GdK (one ++ other) one.length k ∧ AcK (one ++ other) k := by
  obtain ⟨bY, e1, e2⟩ := BY_of t1 t2
  obtain ⟨hg, hu⟩ := h
  have hX := bY.1
  have n1 : one.length < (one ++ other).length := bY.2.2.2.1
  have key : ∀ {p q : Nat}, p < (one ++ other).length → q < (one ++ other).length → (clsF (fun a b => exF g (sub' (one ++ other) a) = exF g (sub' (one ++ other) b)) (one ++ other).length p = clsF (fun a b => exF g (sub' (one ++ other) a) = exF g (sub' (one ++ other) b)) (one ++ other).length q ↔ exF g (sub' (one ++ other) p) = exF g (sub' (one ++ other) q)) := fun hp hq => clsF_iff (R := fun a b => exF g (sub' (one ++ other) a) = exF g (sub' (one ++ other) b)) (fun _ => rfl) (fun _ _ h => h.symm) (fun _ _ _ h1 h2 => h1.trans h2) hp hq
  refine ⟨_, fun p q hp hq e => (key hp hq).mp e, ⟨(key (by omega) n1).mpr (by rw [e1, e2]; exact hu), fun p q hp hq e => (key hp hq).mpr (by rw [e]), fun p q hp hq e a1 a2 => ?_⟩, fun p => (exF g (sub' (one ++ other) p)).length, fun p q hp hq e => congrArg List.length ((key hp hq).mp e), fun p hp j hj => ?_⟩
  · obtain ⟨g1, g2⟩ := exF_heads hX hg hp hq a1 a2 ((key hp hq).mp e)
    exact ⟨g1, fun j hj => (key (ko_mono hX hp hj).2.2.2.2 (ko_mono hX hq (by rw [← ga_eq g1]; exact hj)).2.2.2.2).mpr (g2 j hj)⟩
  · have h10 : 10 ≤ gl (one ++ other) p := by
      rcases Nat.lt_or_ge (gl (one ++ other) p) 10 with z | z
      · rw [ga_name z] at hj
        exact absurd hj (Nat.not_lt_zero _)
      · exact z
    have := cK_len (W := fun q => exF g (sub' (one ++ other) q)) (X := one ++ other) (p := p) (ga (one ++ other) p) 0 j (Nat.zero_le _) (by omega)
    show (exF g (sub' (one ++ other) (ko (one ++ other) p j))).length < (exF g (sub' (one ++ other) p)).length
    rw [exF_hd hX g hp h10, List.length_cons]
    exact Nat.lt_succ_of_le this
theorem Uni.pec {one other : List Nat} (t1 : TW one ∧ one.length ≤ 16) (t2 : TW other ∧ other.length ≤ 16) {g : Nat → List Nat} (h : Uni one other g) : ∃ E, PEc one other E := by
  obtain ⟨bY, e1, e2⟩ := BY_of t1 t2
  have n1 : one.length < (one ++ other).length := bY.2.2.2.1
  obtain ⟨k0, -, G0, rk, r1, r2⟩ := h.cls t1 t2
  obtain ⟨k, M⟩ := MnK.ex (by omega) n1 bY.1 G0
  exact PEc.of t1 t2 M ⟨rk, fun p q hp hq e => r1 p q hp hq (M.2 k0 G0 p q hp hq e), r2⟩
theorem Uni.pes {one other : List Nat} (t1 : TW one ∧ one.length ≤ 16) (t2 : TW other ∧ other.length ≤ 16) {g : Nat → List Nat} (h : Uni one other g) : ∃ E, PEs one other E := by
  obtain ⟨bY, e1, e2⟩ := BY_of t1 t2
  have n1 : one.length < (one ++ other).length := bY.2.2.2.1
  obtain ⟨G, S, q1, q2, q3, q4, q5, q6, q7⟩ := runM_ok t1 t2
  have hw := (run_sat bY.1 h.1 _ _ _ _ _ _ _ q7 (fun x q z => by cases z) (fun x q z => by cases z) (fun z hz => by
    rw [List.mem_singleton.mp hz]
    exact ⟨by show 0 < _; omega, n1, by show exF g (sub' _ 0) = exF g (sub' _ one.length); rw [e1, e2]; exact h.2⟩)).1
  obtain ⟨E, pe⟩ := (stepsB t1 t2 q1 q3 q4 q6 q7 (x := 0) rfl).mp (decide_eq_true hw)
  unfold PEx at pe
  rw [if_pos rfl] at pe
  exact ⟨E, pe⟩
/-- steps and classes tell the same -/
theorem PEs.same {one other : List Nat} (t1 : TW one ∧ one.length ≤ 16) (t2 : TW other ∧ other.length ≤ 16) {E E' : Nat → List Nat} (h : PEs one other E) (h' : PEc one other E') : ∀ x, x < 8 → E x = E' x := by
  have u := h.uni t1 t2
  have u' := h'.uni t1 t2
  obtain ⟨bY, e1, e2⟩ := BY_of t1 t2
  have n1 : one.length < (one ++ other).length := bY.2.2.2.1
  obtain ⟨kE, c1, c2, c3⟩ := u.cls t1 t2
  obtain ⟨G, S, -, -, hr, hS, hA, -, hE⟩ := h
  obtain ⟨k, S', M, A, sk, hE'⟩ := h'
  refine mgu_same bY.1 hS sk.s1 hA (SKP.ac bY.1 sk M.1 A) hE hE' ?_ ?_
  · exact (run_sat bY.1 u'.1 _ _ _ _ _ _ _ hr (fun x q z => by cases z) (fun x q z => by cases z) (fun z hz => by
      rw [List.mem_singleton.mp hz]
      exact ⟨by show 0 < _; omega, n1, by show exF E' (sub' _ 0) = exF E' (sub' _ one.length); rw [e1, e2]; exact u'.2⟩)).2
  · intro x q e
    obtain ⟨x8, q2, p, p1, p2, p3, -⟩ := sk.1 x q e
    have := c1 p q p1 q2 (M.2 kE c2 p q p1 q2 p3)
    rw [exF_nm bY.1 E p1 (by omega), p2] at this
    exact this
theorem canB_same {one other : List Nat} (t1 : TW one ∧ one.length ≤ 16) (t2 : TW other ∧ other.length ≤ 16) : (∃ E, PEs one other E) ↔ ∃ E, PEc one other E := ⟨fun ⟨_, h⟩ => (h.uni t1 t2).pec t1 t2, fun ⟨_, h⟩ => (h.uni t1 t2).pes t1 t2⟩
end Uf30uni
section Uf31snd
/-! what two terms have in common, and a plain term, are matched onto them (written by hand) -/
/-- letters so far matched: what is told, where it stands -/
def Prg (onto xs : List Nat) (b : Nat) (t : List (Option (List Nat))) : Prop := ∀ ys, matchF onto (xs ++ ys) 0 (List.replicate 8 none) = matchF onto ys b t
theorem Prg.nil (onto : List Nat) : Prg onto [] 0 (List.replicate 8 none) := fun _ => rfl
theorem Prg.end {onto xs : List Nat} {b : Nat} {t : List (Option (List Nat))} (h : Prg onto xs b t) : (matchL xs onto).isSome = true := by
  have := h []
  rw [List.append_nil] at this
  unfold matchL
  rw [this]
  rfl
theorem Prg.add {onto xs : List Nat} {b b' x : Nat} {t t' : List (Option (List Nat))} (h : Prg onto xs b t) (h2 : ∀ ys, matchF onto (x :: ys) b t = matchF onto ys b' t') : Prg onto (xs ++ [x]) b' t' := fun ys => by
  rw [List.append_assoc]
  exact (h (x :: ys)).trans (h2 ys)
theorem matchF_hd {onto : List Nat} {b x : Nat} {t : List (Option (List Nat))} (h : onto[b]? = some x) (hx : 10 ≤ x) (ys : List Nat) : matchF onto (x :: ys) b t = matchF onto ys (b + 1) t := by
  have hb := (List.getElem?_eq_some_iff.mp h).1
  rw [matchF, if_neg (by omega), if_pos hx, if_pos h]
theorem matchF_nm {onto : List Nat} {b x : Nat} {t : List (Option (List Nat))} (hb : b < onto.length) (hx : x < 10) (ht : t.getD x none = none ∨ t.getD x none = some (sub' onto b)) (ys : List Nat) : matchF onto (x :: ys) b t = matchF onto ys (b + tl onto b) (t.set x (some (sub' onto b))) := by
  rw [matchF, if_neg (by omega), if_neg (by omega)]
  rcases ht with e | e
  · rw [e]
  · rw [e]
    exact if_pos rfl
/-- what is told is what the pairs are on one side -/
def TIp (f : List Nat × List Nat → List Nat) (t : List (Option (List Nat))) (ps : List (List Nat × List Nat)) : Prop := t.length = 8 ∧ ∀ j, j < 8 → t.getD j none = (ps[j]?).map f
theorem TIp.nil (f : List Nat × List Nat → List Nat) : TIp f (List.replicate 8 none) [] := ⟨List.length_replicate, fun j hj => by
  have : ∀ j, j < 8 → (List.replicate 8 (none : Option (List Nat))).getD j none = none := by decide
  rw [this j hj]
  rfl⟩
theorem TIp.add {f : List Nat × List Nat → List Nat} {t : List (Option (List Nat))} {ps : List (List Nat × List Nat)} (h : TIp f t ps) (q : List Nat × List Nat) (hi : idxP q ps < 8) : (t.getD (idxP q ps) none = none ∨ t.getD (idxP q ps) none = some (f q)) ∧ TIp f (t.set (idxP q ps) (some (f q))) (if idxP q ps < ps.length then ps else ps ++ [q]) := by
  have hg : ∀ j, (t.set (idxP q ps) (some (f q))).getD j none = if idxP q ps = j then some (f q) else t.getD j none := fun j => by
    rw [List.getD_eq_getElem?_getD, List.getD_eq_getElem?_getD, List.getElem?_set]
    by_cases e : idxP q ps = j
    · rw [if_pos e, if_pos e, if_pos (by rw [h.1]; omega)]
      rfl
    · rw [if_neg e, if_neg e]
  by_cases c : idxP q ps < ps.length
  · have e := idxP_eq q ps c
    rw [if_pos c]
    refine ⟨Or.inr (by rw [h.2 _ hi, e]; rfl), by rw [List.length_set]; exact h.1, fun j hj => ?_⟩
    rw [hg]
    by_cases ej : idxP q ps = j
    · rw [if_pos ej, ← ej, e]
      rfl
    · rw [if_neg ej]
      exact h.2 j hj
  · have le := idxP_le q ps
    have e : idxP q ps = ps.length := by omega
    rw [if_neg c]
    refine ⟨Or.inl (by rw [h.2 _ hi, List.getElem?_eq_none (by omega)]; rfl), by rw [List.length_set]; exact h.1, fun j hj => ?_⟩
    rw [hg]
    by_cases ej : idxP q ps = j
    · rw [if_pos ej, ← ej, e, List.getElem?_concat_length]
      rfl
    · rw [if_neg ej, h.2 j hj]
      rcases Nat.lt_or_ge j ps.length with z | z
      · rw [List.getElem?_append_left z]
      · rw [List.getElem?_eq_none (by omega), List.getElem?_eq_none (by rw [List.length_append, List.length_singleton]; omega)]
theorem comF_mono (one other : List Nat) : ∀ (n a b : Nat) (ps : List (List Nat × List Nat)) (M : List Nat), ps.length ≤ (comF one other n a b ps M).1.length
  | 0, _, _, _, _ => Nat.le_refl _
  | n + 1, a, b, ps, M => by
    unfold comF
    split
    · split
      · exact comF_mono one other n _ _ _ _
      · refine Nat.le_trans ?_ (comF_mono one other n _ _ _ _)
        split
        · exact Nat.le_refl _
        · rw [List.length_append]
          omega
    · exact Nat.le_refl _
theorem com_match {one other : List Nat} : ∀ (n a b : Nat) (ps : List (List Nat × List Nat)) (M : List Nat) (t1 t2 : List (Option (List Nat))), Prg one M a t1 → TIp Prod.fst t1 ps → Prg other M b t2 → TIp Prod.snd t2 ps → (comF one other n a b ps M).1.length ≤ 8 →
    (matchL (comF one other n a b ps M).2 one).isSome = true ∧ (matchL (comF one other n a b ps M).2 other).isSome = true
  | 0, a, b, ps, M, t1, t2, p1, _, p2, _, _ => ⟨p1.end, p2.end⟩
  | n + 1, a, b, ps, M, t1, t2, p1, i1, p2, i2, h8 => by
    unfold comF at h8 ⊢
    cases ea : one[a]? with
    | none => exact ⟨p1.end, p2.end⟩
    | some x =>
      cases eb : other[b]? with
      | none => exact ⟨p1.end, p2.end⟩
      | some y =>
        rw [ea, eb] at h8
        dsimp only at h8 ⊢
        have ha := (List.getElem?_eq_some_iff.mp ea).1
        have hb := (List.getElem?_eq_some_iff.mp eb).1
        by_cases c : x = y ∧ 10 ≤ x
        · rw [if_pos c] at h8 ⊢
          exact com_match n _ _ _ _ t1 t2 (p1.add (matchF_hd ea c.2)) i1 (p2.add (matchF_hd (by rw [eb, c.1]) c.2)) i2 h8
        · rw [if_neg c] at h8 ⊢
          have hm := comF_mono one other n (a + tl one a) (b + tl other b) (if idxP (sub' one a, sub' other b) ps < ps.length then ps else ps ++ [(sub' one a, sub' other b)]) (M ++ [idxP (sub' one a, sub' other b) ps])
          have hi : idxP (sub' one a, sub' other b) ps < 8 := by
            by_cases z : idxP (sub' one a, sub' other b) ps < ps.length
            · rw [if_pos z] at hm h8
              omega
            · rw [if_neg z] at hm h8
              have le := idxP_le (sub' one a, sub' other b) ps
              rw [List.length_append, List.length_singleton] at hm
              omega
          obtain ⟨u1, v1⟩ := i1.add (sub' one a, sub' other b) hi
          obtain ⟨u2, v2⟩ := i2.add (sub' one a, sub' other b) hi
          exact com_match n _ _ _ _ _ _ (p1.add (matchF_nm ha (by omega) u1)) v1 (p2.add (matchF_nm hb (by omega) u2)) v2 h8
theorem comL_match {one other : List Nat} (h8 : (comL one other).1.length ≤ 8) : (matchL (comL one other).2 one).isSome = true ∧ (matchL (comL one other).2 other).isSome = true :=
  com_match 16 0 0 [] [] _ _ (Prg.nil one) (TIp.nil _) (Prg.nil other) (TIp.nil _) h8
theorem sub_name {ns : List Nat} {b x : Nat} (h : ns[b]? = some x) (hx : x < 10) : sub' ns b = [x] ∧ tl ns b = 1 := by
  have e : endL 1 (ns.drop b) = some 1 := by
    rw [drop_cons h]
    show (endL (0 + pF x) (ns.drop (b + 1))).map (· + 1) = some 1
    have p0 : pF x = 0 := if_pos hx
    rw [p0]
    have z0 : ∀ r : List Nat, endL (0 + 0) r = some 0 := fun r => by cases r <;> rfl
    rw [z0]
    rfl
  have et := tl_of e
  refine ⟨?_, et⟩
  unfold sub'
  rw [et, drop_cons h]
  rfl
/-- names that become other ones, forth -/
theorem ren_to {ns : List Nat} {f : Nat → Nat} (hf : ∀ x ∈ ns, (x < 10 → f x < 10) ∧ (10 ≤ x → f x = x)) : ∀ (xs : List Nat) (b : Nat) (t : List (Option (List Nat))), xs = ns.drop b → t.length = 8 → (∀ x z, t.getD x none = some z → z = [f x]) → (matchF (ns.map f) xs b t).isSome = true
  | [], _, t, _, _, _ => rfl
  | x :: r, b, t, hx, hl, ht => by
    have hb : b < ns.length := by
      rcases Nat.lt_or_ge b ns.length with z | z
      · exact z
      · rw [List.drop_eq_nil_of_le z] at hx
        cases hx
    obtain ⟨y, hy⟩ : ∃ y, ns[b]? = some y := ⟨_, List.getElem?_eq_getElem hb⟩
    rw [drop_cons hy] at hx
    obtain ⟨rfl, hr⟩ := List.cons.inj hx
    have hm : (ns.map f)[b]? = some (f x) := by rw [List.getElem?_map, hy]; rfl
    obtain ⟨f1, f2⟩ := hf x (List.mem_of_getElem? hy)
    by_cases c : 10 ≤ x
    · rw [matchF_hd (by rw [hm, f2 c]) c]
      exact ren_to hf r (b + 1) t hr hl ht
    · obtain ⟨s1, s2⟩ := sub_name hm (f1 (by omega))
      rw [matchF_nm (by rw [List.length_map]; exact hb) (by omega) (by
        cases e : t.getD x none with
        | none => exact Or.inl rfl
        | some z => exact Or.inr (by rw [ht x z e, s1])), s1, s2]
      refine ren_to hf r (b + 1) _ hr (by rw [List.length_set]; exact hl) (fun u z hu => ?_)
      rw [List.getD_eq_getElem?_getD, List.getElem?_set] at hu
      by_cases e : x = u
      · subst e
        rw [if_pos rfl] at hu
        split at hu
        · cases hu
          rfl
        · cases hu
      · rw [if_neg e] at hu
        exact ht u z (by rw [List.getD_eq_getElem?_getD]; exact hu)
/-- and back -/
theorem ren_from {ns : List Nat} {f : Nat → Nat} (hf : ∀ x ∈ ns, (x < 10 → f x < 10) ∧ (10 ≤ x → f x = x)) (hi : ∀ x ∈ ns, ∀ y ∈ ns, x < 10 → y < 10 → f x = f y → x = y) : ∀ (xs : List Nat) (b : Nat) (t : List (Option (List Nat))), xs = (ns.drop b).map f → t.length = 8 → (∀ u z, t.getD u none = some z → ∃ x ∈ ns, x < 10 ∧ u = f x ∧ z = [x]) → (matchF ns xs b t).isSome = true
  | [], _, t, _, _, _ => rfl
  | v :: r, b, t, hx, hl, ht => by
    have hb : b < ns.length := by
      rcases Nat.lt_or_ge b ns.length with z | z
      · exact z
      · rw [List.drop_eq_nil_of_le z] at hx
        cases hx
    obtain ⟨y, hy⟩ : ∃ y, ns[b]? = some y := ⟨_, List.getElem?_eq_getElem hb⟩
    rw [drop_cons hy, List.map_cons] at hx
    obtain ⟨rfl, hr⟩ := List.cons.inj hx
    have my := List.mem_of_getElem? hy
    obtain ⟨f1, f2⟩ := hf y my
    by_cases c : 10 ≤ y
    · rw [f2 c, matchF_hd hy c]
      exact ren_from hf hi r (b + 1) t hr hl ht
    · obtain ⟨s1, s2⟩ := sub_name hy (by omega)
      rw [matchF_nm hb (f1 (by omega)) (by
        cases e : t.getD (f y) none with
        | none => exact Or.inl rfl
        | some z =>
          obtain ⟨x, x1, x2, x3, x4⟩ := ht _ z e
          rw [x4, s1, hi y my x x1 (by omega) x2 x3]
          exact Or.inr rfl), s1, s2]
      refine ren_from hf hi r (b + 1) _ hr (by rw [List.length_set]; exact hl) (fun u z hu => ?_)
      rw [List.getD_eq_getElem?_getD, List.getElem?_set] at hu
      by_cases e : f y = u
      · rw [if_pos e] at hu
        split at hu
        · cases hu
          exact ⟨y, my, by omega, e.symm, rfl⟩
        · cases hu
      · rw [if_neg e] at hu
        exact ht u z (by rw [List.getD_eq_getElem?_getD]; exact hu)
theorem bit_le {m m' : Nat} (h : ∀ y, y < 8 → bt m y → bt m' y) : ∀ k, k ≤ 8 → cntN m k ≤ cntN m' k
  | 0, _ => Nat.le_refl _
  | k + 1, hk => by
    show cntN m k + m >>> k % 2 ≤ cntN m' k + m' >>> k % 2
    have ih := bit_le h k (by omega)
    have hb := h k (by omega)
    unfold bt at hb
    rcases Nat.mod_two_eq_zero_or_one (m >>> k) with z | z
    · omega
    · have := hb z
      omega
theorem bit_lt {m m' x : Nat} (h : ∀ y, y < 8 → bt m y → bt m' y) (h1 : ¬ bt m x) (h2 : bt m' x) : ∀ k, k ≤ 8 → x < k → cntN m k < cntN m' k
  | 0, _, hx => absurd hx (Nat.not_lt_zero _)
  | k + 1, hk, hx => by
    show cntN m k + m >>> k % 2 < cntN m' k + m' >>> k % 2
    have hb := h k (by omega)
    unfold bt at hb
    by_cases e : x = k
    · subst e
      have ih := bit_le h x (by omega)
      have a2 : m' >>> x % 2 = 1 := h2
      have a1 : m >>> x % 2 = 0 := by
        rcases Nat.mod_two_eq_zero_or_one (m >>> x) with z | z
        · exact z
        · exact absurd z h1
      omega
    · have ih := bit_lt h h1 h2 k (by omega) (by omega)
      rcases Nat.mod_two_eq_zero_or_one (m >>> k) with z | z
      · omega
      · have := hb z
        omega
theorem cntN_le (m : Nat) : ∀ k : Nat, cntN m k ≤ k
  | 0 => Nat.le_refl _
  | k + 1 => by
    show cntN m k + m >>> k % 2 ≤ k + 1
    have := cntN_le m k
    omega
theorem fpN_gm {x : Nat} : ∀ {xs : List Nat}, x ∈ xs → xs[fpN x xs]? = some x
  | [], h => by cases h
  | y :: r, h => by
    by_cases c : y = x
    · subst c
      rw [fpN_eq]
      rfl
    · rw [fpN_ne c]
      exact fpN_gm ((List.mem_cons.mp h).resolve_left (fun z => c z.symm))
theorem fpN_nt {x : Nat} : ∀ {xs : List Nat}, x ∉ xs.take (fpN x xs)
  | [], h => by simp at h
  | y :: r, h => by
    by_cases c : y = x
    · subst c
      rw [fpN_eq] at h
      simp at h
    · rw [fpN_ne c, List.take_succ_cons] at h
      rcases List.mem_cons.mp h with z | z
      · exact c z.symm
      · exact fpN_nt z
/-- unlike names get unlike numbers -/
theorem plP_inj {ns : List Nat} {x y : Nat} (hx : x ∈ ns) (hy : y ∈ ns) (x8 : x < 8) (y8 : y < 8) (h : cntN (namesN (ns.take (fpN x ns))) 8 = cntN (namesN (ns.take (fpN y ns))) 8) : x = y := by
  have key : ∀ x y : Nat, x ∈ ns → x < 8 → fpN x ns < fpN y ns → cntN (namesN (ns.take (fpN x ns))) 8 < cntN (namesN (ns.take (fpN y ns))) 8 := fun x y hx x8 hlt =>
    bit_lt (fun z hz hb => (namesN_mem (by omega) _).mpr (by
      have := (namesN_mem (y := z) (by omega) _).mp hb
      have e : ns.take (fpN x ns) = (ns.take (fpN y ns)).take (fpN x ns) := by rw [List.take_take, Nat.min_eq_left (by omega)]
      rw [e] at this
      exact List.mem_of_mem_take this)) (fun hb => fpN_nt ((namesN_mem (y := x) (by omega) _).mp hb)) ((namesN_mem (by omega) _).mpr (by
      have e : (ns.take (fpN y ns))[fpN x ns]? = some x := by rw [List.getElem?_take_of_lt hlt]; exact fpN_gm hx
      exact List.mem_of_getElem? e)) 8 (Nat.le_refl _) x8
  rcases Nat.lt_trichotomy (fpN x ns) (fpN y ns) with z | z | z
  · have := key x y hx x8 z
    omega
  · have e1 := fpN_gm hx
    have e2 := fpN_gm hy
    rw [z, e2] at e1
    exact (Option.some.inj e1).symm
  · have := key y x hy y8 z
    omega
theorem plP_match {ns : List Nat} (h : TW ns) : (matchL ns (plP ns)).isSome = true ∧ (matchL (plP ns) ns).isSome = true := by
  have hok := h.2
  have hf : ∀ x ∈ ns, (x < 10 → (fun x => if x < 8 then cntN (namesN (ns.take (fpN x ns))) 8 else x) x < 10) ∧ (10 ≤ x → (fun x => if x < 8 then cntN (namesN (ns.take (fpN x ns))) 8 else x) x = x) := fun x hx => by
    have cl : cntN (namesN (ns.take (fpN x ns))) 8 ≤ 8 := cntN_le _ 8
    dsimp only
    constructor
    · intro h10
      rcases hok x hx with q | q
      · rw [if_pos q]
        omega
      · omega
    · intro h10
      exact if_neg (by omega)
  have e : ∀ t : Option (List (Option (List Nat))), (t.map restT).isSome = t.isSome := fun t => by cases t <;> rfl
  constructor
  · unfold matchL
    rw [e]
    exact ren_to hf ns 0 _ rfl List.length_replicate (fun x z hz => by
      exfalso
      rw [List.getD_eq_getElem?_getD, List.getElem?_replicate] at hz
      split at hz <;> cases hz)
  · unfold matchL
    rw [e]
    exact ren_from hf (fun x hx y hy x10 y10 hxy => by
      have x8 : x < 8 := by rcases hok x hx with q | q <;> omega
      have y8 : y < 8 := by rcases hok y hy with q | q <;> omega
      try dsimp only at hxy
      rw [if_pos x8, if_pos y8] at hxy
      exact plP_inj hx hy x8 y8 hxy) (plP ns) 0 _ rfl List.length_replicate (fun x z hz => by
      exfalso
      rw [List.getD_eq_getElem?_getD, List.getElem?_replicate] at hz
      split at hz <;> cases hz)
end Uf31snd
section Uf32q7
/-! isSound() is so (printed by wip/q/genQ7.py) -/
theorem shN_le (X : List Nat) : shN X ≤ X.length := ctF_le _ _
def mcU (B Q P : Nat → Nat) (ox : Nat) (kn : Int32) (F : Nat → TC) (d r : Int32) (X : List Nat) (n1 : Nat) (h : AH) (v : Option Value) (h' : AH) : Prop := FrU B Q (LCl P Q) h h' ∧ mcP B Q P ox kn F d r X n1 h v h'
/-- the steps stay when the classes go on -/
theorem STP.cl {B Q P : Nat → Nat} {ox : Nat} {kn d r : Int32} {h h' : AH} {F F' : Nat → TC} {X : List Nat} {S : SS} {ps : PL2} {tk en : Int32} (Y : LYO B Q) (C : CLS B Q P ox kn h F d r) (T : STP B Q P h F X S ps tk en) (f : FrU B Q (LCl P Q) h h') (S' : TS B Q h' F') (e : F' 50 = F 50) : STP B Q P h' F' X S ps tk en := by
  obtain ⟨a1, a2, a3, ⟨row, b1, b2, b3⟩, c1, c2, c3, ⟨xs, c4⟩, ys, c5⟩ := T
  obtain ⟨w14, -, e14⟩ := C.2.2.2.2.2.2.1 1 (by decide)
  have e14' : h (P 14) = some (4, [.ref (Q 66), .ref (Q 67), vI w14]) := e14
  have row0 := C.2.2.2.2.2.2.2
  have kp : ∀ {a k : Nat} {vs : List Value}, h a = some (k, vs) → k ≠ 7 → k ≠ 107 → a ≠ P 14 → h' a = some (k, vs) := fun {a k vs} ea h7 h107 hn => by
    rw [f a (fun i hi => ?_) (fun z => ?_)]
    · exact ea
    · obtain ⟨-, q1, xs, q2, -⟩ := a1 i hi
      exact ⟨k_ne ea q1 h7, k_ne ea q2 h107⟩
    · simp only [LCl, List.mem_cons, List.not_mem_nil, or_false] at z
      have kq : ∀ j, 60 ≤ j → j < 70 → a ≠ Q j := fun j h1 h2 => by
        obtain ⟨ws, e2, -⟩ := row0 j h1 h2
        exact k_ne ea e2 h107
      rcases z with z | z | z | z | z | z
      · exact hn z
      · exact kq 61 (by decide) (by decide) z
      · exact kq 62 (by decide) (by decide) z
      · exact kq 63 (by decide) (by decide) z
      · exact kq 66 (by decide) (by decide) z
      · exact kq 67 (by decide) (by decide) z
  have kr : ∀ {j : Nat} {vs : List Value}, h (Q j) = some (107, vs) → 60 ≤ j → j < 70 → j ≠ 61 → j ≠ 62 → j ≠ 63 → j ≠ 66 → j ≠ 67 → h' (Q j) = some (107, vs) := fun {j vs} ea h1 h2 n1 n2 n3 n4 n5 => by
    rw [f (Q j) (fun i hi => ?_) (fun z => ?_)]
    · exact ea
    · obtain ⟨-, q1, xs, q2, -⟩ := a1 i hi
      exact ⟨k_ne ea q1 (by decide), fun z => by have := Y.2 _ _ (by omega) (by omega) z; omega⟩
    · simp only [LCl, List.mem_cons, List.not_mem_nil, or_false] at z
      rcases z with z | z | z | z | z | z
      · exact k_ne ea e14' (by decide) z
      · exact n1 (Y.2 _ _ h2 (by decide) z)
      · exact n2 (Y.2 _ _ h2 (by decide) z)
      · exact n3 (Y.2 _ _ h2 (by decide) z)
      · exact n4 (Y.2 _ _ h2 (by decide) z)
      · exact n5 (Y.2 _ _ h2 (by decide) z)
  have hne : P 13 ≠ P 14 := SCR.pne Y C.2.2.2 (i := 0) (j := 1) (by decide) (by decide) (by decide)
  refine ⟨S', by rw [e]; exact a2, kp a3 (by decide) (by decide) (k_ne a3 e14' (by decide)), ⟨row, kr b1 (by decide) (by decide) (by decide) (by decide) (by decide) (by decide) (by decide), b2, b3⟩, c1, c2, kp c3 (by decide) (by decide) hne, ⟨xs, kr c4.1 (by decide) (by decide) (by decide) (by decide) (by decide) (by decide) (by decide), c4.2⟩, ys, kr c5.1 (by decide) (by decide) (by decide) (by decide) (by decide) (by decide) (by decide), c5.2⟩
section Q32
variable {la : Launch} {D : va_G} {cA : Nat → ClassId} {B0 pa : Nat} {B Q P : Nat → Nat} {ox : Nat} {kn d r : Int32} {F : Nat → TC}
set_option maxHeartbeats 64000000 in
theorem s1_makeAlikeU (h : AH) (Y : LYO B Q) (C : CLS B Q P ox kn h F d r) {i1 i2 : Nat} (h1i : i1 < 52) (h1n : i1 ≠ 51) (h2i : i2 < 52) (h2n : i2 ≠ 51) {one other : List Nat} (N1 : TN (F i1) one) (N2 : TN (F i2) other) (t1 : TW one ∧ one.length ≤ 16) (t2 : TW other ∧ other.length ≤ 16) : CT la D cA B0 pa yX1_makeAlike cX1_makeAlike 8 (some .boolean) (rmD 6 0 0) [.ref (P 5), .ref (B i1), .ref (B i2)] h (mcU B Q P ox kn F d r (one ++ other) one.length h) := by
  refine CT_of (by decide +kernel) (Nat.le_of_ble_eq_true rfl) ?_
  intro p e s m args below meth c X E hr hlk hnm
  have dk : ∀ {pc : Nat} {q : Instr × Nat}, lkd DX1_makeAlike pc = some q → decode cX1_makeAlike pc = .ok q := lkd_ok DX1_makeAlike_ok
  obtain ⟨bY, ey1, ey2⟩ := BY_of t1 t2
  have hX := bY.1
  have hX32 := hX.2.2
  have hn1 := bY.2.2.2.1
  have hrm : rmI 51 = 32 := rfl
  have hl1 := N1.len
  have hl2 := N2.len
  have hL := C.2.2.2.lcl
  have NX : TN ((upF F 51 ((F i1).1 ++ (F i2).1, (F i1).2 || (F i2).2)) 51) (one ++ other) := by
    rw [upF_self]
    refine ⟨?_, fun x hx => (List.mem_append.mp hx).elim (N1.2 x) (N2.2 x)⟩
    show (F i1).1 ++ (F i2).1 = (one ++ other).map nI
    rw [N1.1, N2.1, List.map_append]
  have fin : ∀ (b : Bool) (h1 : AH) (k : Nat → Nat) (hd : Nat → Option Nat) (g : Nat → Int32) (ps : PL2), (b = true ↔ ∃ k, MnK (one ++ other) one.length k ∧ AcK (one ++ other) k) → CTG B Q P h1 (upF F 51 ((F i1).1 ++ (F i2).1, (F i1).2 || (F i2).2)) (one ++ other) (nK k) (pK hd) g ps → FrU B Q (LCl P Q) h h1 → (b = true → HDP (one ++ other) k hd ∧ GdK (one ++ other) one.length k ∧ AcK (one ++ other) k ∧ MnK (one ++ other) one.length k) → mcU B Q P ox kn F d r (one ++ other) one.length h (some (.int (bI b))) h1 := fun b h1 k hd g ps e1 T1 f1 e2 => ⟨f1, b, rfl, e1, f1.frC C.1 hL, _, C.cl Y T1 f1, fun i hi => upF_ne _ _ hi, fun z => ⟨k, hd, g, ps, T1, e2 z⟩⟩
  have loop : ∀ (n j : Nat) (k : Nat → Nat) (hd : Nat → Option Nat) (g : Nat → Int32) (sk : PL2) (h1 : AH), sk.length + 3 * fxK (one ++ other).length k ≤ n → j + n ≤ 97 → IC (one ++ other) one.length k hd sk → CTG B Q P h1 (upF F 51 ((F i1).1 ++ (F i2).1, (F i1).2 || (F i2).2)) (one ++ other) (nK k) (pK hd) g sk.reverse → FrU B Q (LCl P Q) h h1 → ∀ l : List (Nat × Value), lsel l [4, 3, 0] = [(4, vI j), (3, .int (bI true)), (0, .ref (P 5))] → WR p la e (rmD 6 0 0) s m args below meth c D cA B0 8 (mcU B Q P ox kn F d r (one ++ other) one.length h) 86 l [] h1 0 0 := by
    intro n
    induction n with
    | zero =>
      intro j k hd g sk h1 hn hj I T1 f1 l hl
      cases sk with
      | nil =>
        obtain ⟨t1, t2, t3, t4, t5, t6, t7⟩ := id T1
        have mn := I.mn
        have HD := I.1
        refine WS.sel [4, 3, 0] hl ?_
        refine fst1_ok X (dk rfl) rfl ?_
        refine ldc_ok X csX1_63 (dk rfl) ?_
        refine br_ok X (dk rfl) rfl (show ((90 : Nat) : Int) + 95 = ((185 : Nat) : Int) from rfl) (fun q => absurd q (by rw [show (1000000 : Int32) = nI 1000000 by decide +kernel]; exact nI_ge (by omega) (by omega))) (fun _ => ?_)
        refine fst1_ok X (dk rfl) rfl ?_
        refine br_ok X (dk rfl) rfl (show ((94 : Nat) : Int) + 91 = ((185 : Nat) : Int) from rfl) (fun q => absurd q bI_t) (fun _ => ?_)
        refine fst1_ok X (dk rfl) rfl ?_
        refine getf_ok X flX1_33 (dk rfl) t3 rfl ?_
        refine callVR_ok (ci := 4) (T := TX2) (N := 3) (av := []) (r := []) X E (s2_length h1 t7) lkX2_length mlX1_64 lmX2_length lpX2_length ⟨Nat.le_of_ble_eq_true rfl, Nat.le_of_ble_eq_true rfl⟩ ⟨Nat.le_of_ble_eq_true rfl, Nat.le_of_ble_eq_true rfl⟩ rfl ⟨_, t7.2.2.1⟩ (Nat.le_of_ble_eq_true rfl) (dk rfl) ?_
        rintro _ rfl
        refine br_ok X (dk rfl) rfl (show ((104 : Nat) : Int) + 81 = ((185 : Nat) : Int) from rfl) (fun _ => ?_) (fun q => absurd (by decide) q)
        refine fst1_ok X (dk rfl) rfl ?_
        refine br_ok X (dk rfl) rfl (show ((186 : Nat) : Int) + 14 = ((200 : Nat) : Int) from rfl) (fun q => absurd q bI_t) (fun _ => ?_)
        refine fst1_ok X (dk rfl) rfl ?_
        refine callVR_ok (ci := 3) (T := TX1) (N := 5) (av := []) (r := []) X E (s1_isNoneInItself h1 T1 bY HD mn.1) lkX1_isNoneInItself mlX1_81 lmX1_isNoneInItself lpX1_isNoneInItself ⟨Nat.le_of_ble_eq_true rfl, Nat.le_of_ble_eq_true rfl⟩ ⟨Nat.le_of_ble_eq_true rfl, Nat.le_of_ble_eq_true rfl⟩ rfl ⟨_, t3⟩ (Nat.le_of_ble_eq_true rfl) (dk rfl) ?_
        rintro _ ⟨b, rfl, hb⟩
        have iff1 : b = true ↔ ∃ k, MnK (one ++ other) one.length k ∧ AcK (one ++ other) k := ⟨fun z => ⟨k, mn, hb.mp z⟩, fun ⟨k2, m2, a2⟩ => hb.mpr (AcK.of m2 mn a2)⟩
        cases b with
        | true =>
          refine br_ok X (dk rfl) rfl (show ((193 : Nat) : Int) + 7 = ((200 : Nat) : Int) from rfl) (fun q => absurd q bI_t) (fun _ => ?_)
          refine fst1_ok X (dk rfl) rfl ?_
          refine br_ok X (dk rfl) rfl (show ((197 : Nat) : Int) + 4 = ((201 : Nat) : Int) from rfl) (fun _ => ?_) (fun q => absurd trivial q)
          exact reti_ok X hr hlk (bI_n true) (dk rfl) (fin true h1 k hd g _ iff1 T1 f1 (fun _ => ⟨HD, mn.1, hb.mp rfl, mn⟩)) (Nat.le_of_ble_eq_true rfl) (Nat.le_of_ble_eq_true rfl)
        | false =>
          refine br_ok X (dk rfl) rfl (show ((193 : Nat) : Int) + 7 = ((200 : Nat) : Int) from rfl) (fun _ => ?_) (fun q => absurd bI_f' q)
          refine fst1_ok X (dk rfl) rfl ?_
          exact reti_ok X hr hlk (bI_n false) (dk rfl) (fin false h1 k hd g _ iff1 T1 f1 (fun z => (by cases z))) (Nat.le_of_ble_eq_true rfl) (Nat.le_of_ble_eq_true rfl)
      | cons z sk =>
        rw [List.length_cons] at hn
        omega
    | succ n ih =>
      intro j k hd g sk h1 hn hj I T1 f1 l hl
      cases sk with
      | nil =>
        obtain ⟨t1, t2, t3, t4, t5, t6, t7⟩ := id T1
        have mn := I.mn
        have HD := I.1
        refine WS.sel [4, 3, 0] hl ?_
        refine fst1_ok X (dk rfl) rfl ?_
        refine ldc_ok X csX1_63 (dk rfl) ?_
        refine br_ok X (dk rfl) rfl (show ((90 : Nat) : Int) + 95 = ((185 : Nat) : Int) from rfl) (fun q => absurd q (by rw [show (1000000 : Int32) = nI 1000000 by decide +kernel]; exact nI_ge (by omega) (by omega))) (fun _ => ?_)
        refine fst1_ok X (dk rfl) rfl ?_
        refine br_ok X (dk rfl) rfl (show ((94 : Nat) : Int) + 91 = ((185 : Nat) : Int) from rfl) (fun q => absurd q bI_t) (fun _ => ?_)
        refine fst1_ok X (dk rfl) rfl ?_
        refine getf_ok X flX1_33 (dk rfl) t3 rfl ?_
        refine callVR_ok (ci := 4) (T := TX2) (N := 3) (av := []) (r := []) X E (s2_length h1 t7) lkX2_length mlX1_64 lmX2_length lpX2_length ⟨Nat.le_of_ble_eq_true rfl, Nat.le_of_ble_eq_true rfl⟩ ⟨Nat.le_of_ble_eq_true rfl, Nat.le_of_ble_eq_true rfl⟩ rfl ⟨_, t7.2.2.1⟩ (Nat.le_of_ble_eq_true rfl) (dk rfl) ?_
        rintro _ rfl
        refine br_ok X (dk rfl) rfl (show ((104 : Nat) : Int) + 81 = ((185 : Nat) : Int) from rfl) (fun _ => ?_) (fun q => absurd (by decide) q)
        refine fst1_ok X (dk rfl) rfl ?_
        refine br_ok X (dk rfl) rfl (show ((186 : Nat) : Int) + 14 = ((200 : Nat) : Int) from rfl) (fun q => absurd q bI_t) (fun _ => ?_)
        refine fst1_ok X (dk rfl) rfl ?_
        refine callVR_ok (ci := 3) (T := TX1) (N := 5) (av := []) (r := []) X E (s1_isNoneInItself h1 T1 bY HD mn.1) lkX1_isNoneInItself mlX1_81 lmX1_isNoneInItself lpX1_isNoneInItself ⟨Nat.le_of_ble_eq_true rfl, Nat.le_of_ble_eq_true rfl⟩ ⟨Nat.le_of_ble_eq_true rfl, Nat.le_of_ble_eq_true rfl⟩ rfl ⟨_, t3⟩ (Nat.le_of_ble_eq_true rfl) (dk rfl) ?_
        rintro _ ⟨b, rfl, hb⟩
        have iff1 : b = true ↔ ∃ k, MnK (one ++ other) one.length k ∧ AcK (one ++ other) k := ⟨fun z => ⟨k, mn, hb.mp z⟩, fun ⟨k2, m2, a2⟩ => hb.mpr (AcK.of m2 mn a2)⟩
        cases b with
        | true =>
          refine br_ok X (dk rfl) rfl (show ((193 : Nat) : Int) + 7 = ((200 : Nat) : Int) from rfl) (fun q => absurd q bI_t) (fun _ => ?_)
          refine fst1_ok X (dk rfl) rfl ?_
          refine br_ok X (dk rfl) rfl (show ((197 : Nat) : Int) + 4 = ((201 : Nat) : Int) from rfl) (fun _ => ?_) (fun q => absurd trivial q)
          exact reti_ok X hr hlk (bI_n true) (dk rfl) (fin true h1 k hd g _ iff1 T1 f1 (fun _ => ⟨HD, mn.1, hb.mp rfl, mn⟩)) (Nat.le_of_ble_eq_true rfl) (Nat.le_of_ble_eq_true rfl)
        | false =>
          refine br_ok X (dk rfl) rfl (show ((193 : Nat) : Int) + 7 = ((200 : Nat) : Int) from rfl) (fun _ => ?_) (fun q => absurd bI_f' q)
          refine fst1_ok X (dk rfl) rfl ?_
          exact reti_ok X hr hlk (bI_n false) (dk rfl) (fin false h1 k hd g _ iff1 T1 f1 (fun z => (by cases z))) (Nat.le_of_ble_eq_true rfl) (Nat.le_of_ble_eq_true rfl)
      | cons z sk =>
        obtain ⟨u1, u2⟩ := z
        obtain ⟨hu1, hu2⟩ := I.2.2.2.2.2 (u1, u2) List.mem_cons_self
        have hu1 : u1 < (one ++ other).length := hu1
        have hu2 : u2 < (one ++ other).length := hu2
        rw [List.reverse_cons] at T1
        rw [List.length_cons] at hn
        obtain ⟨t1, t2, t3, t4, t5, t6, t7⟩ := id T1
        have HD := I.1
        have hk1 : k u1 < 32 := HD.1 u1 (by omega)
        have hk2 : k u2 < 32 := HD.1 u2 (by omega)
        have elen : (sk.reverse ++ [(u1, u2)]).length = sk.length + 1 := by rw [List.length_append, List.length_reverse, List.length_singleton]
        have eget : (sk.reverse ++ [(u1, u2)])[sk.length]? = some (u1, u2) := by
          rw [List.getElem?_append_right (by rw [List.length_reverse]; exact Nat.le_refl _), List.length_reverse, Nat.sub_self]
          rfl
        have fj : Value.int (nI j + Int32.ofInt 1) = vI (j + 1) := congrArg Value.int (by rw [nI_1', nI_add])
        refine WS.sel [4, 3, 0] hl ?_
        refine fst1_ok X (dk rfl) rfl ?_
        refine ldc_ok X csX1_63 (dk rfl) ?_
        refine br_ok X (dk rfl) rfl (show ((90 : Nat) : Int) + 95 = ((185 : Nat) : Int) from rfl) (fun q => absurd q (by rw [show (1000000 : Int32) = nI 1000000 by decide +kernel]; exact nI_ge (by omega) (by omega))) (fun _ => ?_)
        refine fst1_ok X (dk rfl) rfl ?_
        refine br_ok X (dk rfl) rfl (show ((94 : Nat) : Int) + 91 = ((185 : Nat) : Int) from rfl) (fun q => absurd q bI_t) (fun _ => ?_)
        refine fst1_ok X (dk rfl) rfl ?_
        refine getf_ok X flX1_33 (dk rfl) t3 rfl ?_
        refine callVR_ok (ci := 4) (T := TX2) (N := 3) (av := []) (r := []) X E (s2_length h1 t7) lkX2_length mlX1_64 lmX2_length lpX2_length ⟨Nat.le_of_ble_eq_true rfl, Nat.le_of_ble_eq_true rfl⟩ ⟨Nat.le_of_ble_eq_true rfl, Nat.le_of_ble_eq_true rfl⟩ rfl ⟨_, t7.2.2.1⟩ (Nat.le_of_ble_eq_true rfl) (dk rfl) ?_
        rintro _ rfl
        rw [elen]
        refine br_ok X (dk rfl) rfl (show ((104 : Nat) : Int) + 81 = ((185 : Nat) : Int) from rfl) (fun q => absurd q (nI_nle (Nat.succ_pos _) (by omega))) (fun _ => ?_)
        refine fst1_ok X (dk rfl) rfl ?_
        refine getf_ok X flX1_33 (dk rfl) t3 rfl ?_
        refine callVR_ok (ci := 4) (T := TX2) (N := 3) (av := []) (r := []) X E (s2_length h1 t7) lkX2_length mlX1_64 lmX2_length lpX2_length ⟨Nat.le_of_ble_eq_true rfl, Nat.le_of_ble_eq_true rfl⟩ ⟨Nat.le_of_ble_eq_true rfl, Nat.le_of_ble_eq_true rfl⟩ rfl ⟨_, t7.2.2.1⟩ (Nat.le_of_ble_eq_true rfl) (dk rfl) ?_
        rintro _ rfl
        rw [elen]
        iterate 5 refine fst1_ok X (dk rfl) rfl ?_
        rw [nI_1', nI_sub (by omega), Nat.add_sub_cancel]
        refine getf_ok X flX1_33 (dk rfl) t3 rfl ?_
        refine fst1_ok X (dk rfl) rfl ?_
        refine callVR_ok (ci := 4) (T := TX2) (N := 3) (av := [vI sk.length]) (r := [.ref (P 5)]) X E (s2_oneAt h1 t7 eget) lkX2_oneAt mlX1_65 lmX2_oneAt lpX2_oneAt ⟨Nat.le_of_ble_eq_true rfl, Nat.le_of_ble_eq_true rfl⟩ ⟨Nat.le_of_ble_eq_true rfl, Nat.le_of_ble_eq_true rfl⟩ rfl ⟨_, t7.2.2.1⟩ (Nat.le_of_ble_eq_true rfl) (dk rfl) ?_
        rintro _ rfl
        refine callVR_ok (ci := 3) (T := TX1) (N := 5) (av := [vI u1]) (r := []) X E (s1_classAt h1 T1 (z := u1) (by omega)) lkX1_classAt mlX1_68 lmX1_classAt lpX1_classAt ⟨Nat.le_of_ble_eq_true rfl, Nat.le_of_ble_eq_true rfl⟩ ⟨Nat.le_of_ble_eq_true rfl, Nat.le_of_ble_eq_true rfl⟩ rfl ⟨_, t3⟩ (Nat.le_of_ble_eq_true rfl) (dk rfl) ?_
        rintro _ rfl
        iterate 3 refine fst1_ok X (dk rfl) rfl ?_
        refine getf_ok X flX1_33 (dk rfl) t3 rfl ?_
        refine fst1_ok X (dk rfl) rfl ?_
        refine callVR_ok (ci := 4) (T := TX2) (N := 3) (av := [vI sk.length]) (r := [.ref (P 5)]) X E (s2_otherAt h1 t7 eget) lkX2_otherAt mlX1_71 lmX2_otherAt lpX2_otherAt ⟨Nat.le_of_ble_eq_true rfl, Nat.le_of_ble_eq_true rfl⟩ ⟨Nat.le_of_ble_eq_true rfl, Nat.le_of_ble_eq_true rfl⟩ rfl ⟨_, t7.2.2.1⟩ (Nat.le_of_ble_eq_true rfl) (dk rfl) ?_
        rintro _ rfl
        refine callVR_ok (ci := 3) (T := TX1) (N := 5) (av := [vI u2]) (r := []) X E (s1_classAt h1 T1 (z := u2) (by omega)) lkX1_classAt mlX1_68 lmX1_classAt lpX1_classAt ⟨Nat.le_of_ble_eq_true rfl, Nat.le_of_ble_eq_true rfl⟩ ⟨Nat.le_of_ble_eq_true rfl, Nat.le_of_ble_eq_true rfl⟩ rfl ⟨_, t3⟩ (Nat.le_of_ble_eq_true rfl) (dk rfl) ?_
        rintro _ rfl
        rw [show nK k u1 = nI (k u1) from rfl, show nK k u2 = nI (k u2) from rfl]
        iterate 2 refine fst1_ok X (dk rfl) rfl ?_
        refine getf_ok X flX1_33 (dk rfl) t3 rfl ?_
        refine callV_ok (ci := 4) (T := TX2) (N := 3) (av := []) (r := []) X E (s2_dropNext h1 t7) lkX2_dropNext mlX1_74 lmX2_dropNext lpX2_dropNext ⟨Nat.le_of_ble_eq_true rfl, Nat.le_of_ble_eq_true rfl⟩ ⟨Nat.le_of_ble_eq_true rfl, Nat.le_of_ble_eq_true rfl⟩ rfl t7.2.2.1 (Nat.le_of_ble_eq_true rfl) (dk rfl) ?_
        rintro _ h2 ⟨rfl, H2, g2⟩
        have T2 := T1.pr Y H2 g2
        have f2 := f1.trans (g2.u (LCl_p P Q))
        obtain ⟨-, -, s3, -, -, -, s7⟩ := id T2
        iterate 2 refine fst1_ok X (dk rfl) rfl ?_
        by_cases ee : k u1 = k u2
        · refine br_ok X (dk rfl) rfl (show ((159 : Nat) : Int) + 14 = ((173 : Nat) : Int) from rfl) (fun _ => ?_) (fun q => absurd (by rw [ee]) q)
          refine fst1_ok X (dk rfl) rfl ?_
          refine br_ok X (dk rfl) rfl (show ((174 : Nat) : Int) + 4 = ((178 : Nat) : Int) from rfl) (fun _ => ?_) (fun q => absurd trivial q)
          have I2 := I.skip (z := (u1, u2)) ee
          iterate 2 refine fst1_ok X (dk rfl) rfl ?_
          refine br_ok X (dk rfl) rfl (show ((182 : Nat) : Int) + (-96) = ((86 : Nat) : Int) from rfl) (fun _ => ?_) (fun q => absurd trivial q)
          refine WS.sel (l' := [(4, vI (j + 1)), (3, .int (bI true)), (0, .ref (P 5))]) [4, 3, 0] (by rw [← fj]; rfl) ?_
          exact ih (j + 1) k hd g _ h2 (by omega) (by omega) I2 T2 f2 _ rfl
        · refine br_ok X (dk rfl) rfl (show ((159 : Nat) : Int) + 14 = ((173 : Nat) : Int) from rfl) (fun q => absurd (nI_inj (by omega) (by omega) q) ee) (fun _ => ?_)
          iterate 3 refine fst1_ok X (dk rfl) rfl ?_
          refine callV_ok (ci := 3) (T := TX1) (N := 5) (av := [vI (k u1), vI (k u2)]) (r := []) X E (s1_join h2 Y T2 hX (zl := k u1) (zr := k u2) hk1 hk2 HD.1 (fun a ea => (HD.2.2.1 u1 hu1 a ea).1) (fun a ea => (HD.2.2.1 u2 hu2 a ea).1) (by rw [List.length_reverse]; omega)) lkX1_join mlX1_77 lmX1_join lpX1_join ⟨Nat.le_of_ble_eq_true rfl, Nat.le_of_ble_eq_true rfl⟩ ⟨Nat.le_of_ble_eq_true rfl, Nat.le_of_ble_eq_true rfl⟩ rfl s3 (Nat.le_of_ble_eq_true rfl) (dk rfl) ?_
          rintro _ h3 (⟨a, b, ea, eb, hg, rfl, rfl⟩ | ⟨rfl, hgg, T3, g3⟩)
          · refine br_ok X (dk rfl) rfl (show ((170 : Nat) : Int) + 7 = ((177 : Nat) : Int) from rfl) (fun _ => ?_) (fun q => absurd bI_f' q)
            have hno := I.no (z := (u1, u2)) ea eb hg
            iterate 3 refine fst1_ok X (dk rfl) rfl ?_
            refine br_ok X (dk rfl) rfl (show ((182 : Nat) : Int) + (-96) = ((86 : Nat) : Int) from rfl) (fun _ => ?_) (fun q => absurd trivial q)
            refine fst1_ok X (dk rfl) rfl ?_
            refine ldc_ok X csX1_63 (dk rfl) ?_
            refine br_ok X (dk rfl) rfl (show ((90 : Nat) : Int) + 95 = ((185 : Nat) : Int) from rfl) (fun q => absurd q (by rw [show (1000000 : Int32) = nI 1000000 by decide +kernel, nI_1', nI_add]; exact nI_ge (by omega) (by omega))) (fun _ => ?_)
            refine fst1_ok X (dk rfl) rfl ?_
            refine br_ok X (dk rfl) rfl (show ((94 : Nat) : Int) + 91 = ((185 : Nat) : Int) from rfl) (fun _ => ?_) (fun q => absurd bI_f' q)
            refine fst1_ok X (dk rfl) rfl ?_
            refine br_ok X (dk rfl) rfl (show ((186 : Nat) : Int) + 14 = ((200 : Nat) : Int) from rfl) (fun _ => ?_) (fun q => absurd bI_f' q)
            refine fst1_ok X (dk rfl) rfl ?_
            exact reti_ok X hr hlk (bI_n false) (dk rfl) (fin false h3 k hd g _ ⟨fun z => (by cases z), fun ⟨k2, m2, _⟩ => absurd ⟨k2, m2.1⟩ hno⟩ T2 f2 (fun z => (by cases z))) (Nat.le_of_ble_eq_true rfl) (Nat.le_of_ble_eq_true rfl)
          · obtain ⟨I3, m3, m4⟩ := I.mrg hX (z := (u1, u2)) ee hgg
            have m3 : fxK (one ++ other).length (mgK k (k u1) (k u2)) + 1 ≤ fxK (one ++ other).length k := m3
            have m4 : (nwM (one ++ other) hd (k u1) (k u2)).length ≤ 3 := m4
            have f3 := f2.trans g3
            have T4 : CTG B Q P h3 (upF F 51 ((F i1).1 ++ (F i2).1, (F i1).2 || (F i2).2)) (one ++ other) (nK (mgK k (k u1) (k u2))) (pK (hdM k hd (k u1) (k u2))) g (nwM (one ++ other) hd (k u1) (k u2) ++ sk).reverse := by
              refine Eq.mp (congrArg (CTG B Q P h3 (upF F 51 ((F i1).1 ++ (F i2).1, (F i1).2 || (F i2).2)) (one ++ other) (nK (mgK k (k u1) (k u2))) (pK (hdM k hd (k u1) (k u2))) g) ?_) T3
              rw [List.reverse_append]
              congr 1
              unfold nwM
              generalize hd (k u1) = oa
              generalize hd (k u2) = ob
              cases oa <;> cases ob <;> rfl
            refine br_ok X (dk rfl) rfl (show ((170 : Nat) : Int) + 7 = ((177 : Nat) : Int) from rfl) (fun q => absurd q bI_t) (fun _ => ?_)
            refine fst1_ok X (dk rfl) rfl ?_
            refine br_ok X (dk rfl) rfl (show ((174 : Nat) : Int) + 4 = ((178 : Nat) : Int) from rfl) (fun _ => ?_) (fun q => absurd trivial q)
            iterate 2 refine fst1_ok X (dk rfl) rfl ?_
            refine br_ok X (dk rfl) rfl (show ((182 : Nat) : Int) + (-96) = ((86 : Nat) : Int) from rfl) (fun _ => ?_) (fun q => absurd trivial q)
            refine WS.sel (l' := [(4, vI (j + 1)), (3, .int (bI true)), (0, .ref (P 5))]) [4, 3, 0] (by rw [← fj]; rfl) ?_
            exact ih (j + 1) (mgK k (k u1) (k u2)) (hdM k hd (k u1) (k u2)) g _ h3 (by rw [List.length_append]; omega) (by omega) I3 T4 f3 _ rfl
  have fill : ∀ (u i : Nat) (g1 g2 g3 : Nat → Int32) (h1 : AH), u + i = 32 → CTW B Q P h1 (upF F 51 ((F i1).1 ++ (F i2).1, (F i1).2 || (F i2).2)) (one ++ other) g1 g2 g3 → (∀ y, y < i → g1 y = nK (flX (one ++ other)) y ∧ g2 y = pK (hd0 (one ++ other)) y) → FrU B Q (LCl P Q) h h1 → ∀ l : List (Nat × Value), lsel l [3, 1, 0] = [(3, vI i), (1, .ref (B i1)), (0, .ref (P 5))] → WR p la e (rmD 6 0 0) s m args below meth c D cA B0 8 (mcU B Q P ox kn F d r (one ++ other) one.length h) 11 l [] h1 0 0 := by
    intro u
    induction u with
    | zero =>
      intro i g1 g2 g3 h1 hi T1 hg f1 l hl
      have hi32 : i = 32 := by omega
      subst hi32
      obtain ⟨t1, t2, t3, t4, t5, t6, t7⟩ := id T1
      refine WS.sel [3, 1, 0] hl ?_
      iterate 2 refine fst1_ok X (dk rfl) rfl ?_
      refine br_ok X (dk rfl) rfl (show ((14 : Nat) : Int) + 48 = ((62 : Nat) : Int) from rfl) (fun _ => ?_) (fun q => absurd (by rw [nI_32']; exact Int32.le_refl _) q)
      refine fst1_ok X (dk rfl) rfl ?_
      refine getf_ok X flX1_33 (dk rfl) t3 rfl ?_
      refine callV_ok (ci := 4) (T := TX2) (N := 3) (av := []) (r := []) X E (s2_empty h1 t7) lkX2_empty mlX1_52 lmX2_empty lpX2_empty ⟨Nat.le_of_ble_eq_true rfl, Nat.le_of_ble_eq_true rfl⟩ ⟨Nat.le_of_ble_eq_true rfl, Nat.le_of_ble_eq_true rfl⟩ rfl t7.1.choose_spec.2 (Nat.le_of_ble_eq_true rfl) (dk rfl) ?_
      rintro _ h2 ⟨rfl, H2, f2⟩
      have T2 := T1.pr Y H2 f2
      obtain ⟨s1, s2, s3, s4, s5, s6, s7⟩ := id T2
      refine fst1_ok X (dk rfl) rfl ?_
      refine getf_ok X flX1_33 (dk rfl) s3 rfl ?_
      iterate 2 refine fst1_ok X (dk rfl) rfl ?_
      refine callVR_ok (ci := 7) (T := TX5) (N := 3) (av := []) (r := [vI 0, .ref (P 14)]) X E (s5_length h2 s1 h1i) lkX5_length mlX1_55 lmX5_length lpX5_length ⟨Nat.le_of_ble_eq_true rfl, Nat.le_of_ble_eq_true rfl⟩ ⟨Nat.le_of_ble_eq_true rfl, Nat.le_of_ble_eq_true rfl⟩ rfl ⟨_, (s1 i1 h1i).2.1⟩ (Nat.le_of_ble_eq_true rfl) (dk rfl) ?_
      rintro _ rfl
      rw [upF_ne _ _ h1n, hl1]
      refine callV_ok (ci := 4) (T := TX2) (N := 3) (av := [vI 0, vI one.length]) (r := []) X E (s2_add h2 H2 (Yne Y (by decide) (by decide) (by decide)) (ta := 0) (tb := one.length) ⟨by omega, by omega⟩ (by decide)) lkX2_add mlX1_59 lmX2_add lpX2_add ⟨Nat.le_of_ble_eq_true rfl, Nat.le_of_ble_eq_true rfl⟩ ⟨Nat.le_of_ble_eq_true rfl, Nat.le_of_ble_eq_true rfl⟩ rfl H2.2.2.1 (Nat.le_of_ble_eq_true rfl) (dk rfl) ?_
      rintro _ h3 ⟨rfl, H3, f3⟩
      have T3 := (T2.pr Y H3 f3).congr (fun y hy => (hg y hy).1) (fun y hy => (hg y hy).2)
      have f23 := (f1.trans (f2.u (LCl_p P Q))).trans (f3.u (LCl_p P Q))
      iterate 4 refine fst1_ok X (dk rfl) rfl ?_
      refine WS.sel (l' := [(4, vI 0), (3, .int (bI true)), (0, .ref (P 5))]) [4, 3, 0] (rfl) ?_
      have hfx := fxK_le (one ++ other).length (flX (one ++ other))
      exact loop 97 0 _ _ g3 [(0, one.length)] h3 (by rw [List.length_singleton]; omega) (by omega) (IC0 bY) T3 f23 _ rfl
    | succ u ih =>
      intro i g1 g2 g3 h1 hi T1 hg f1 l hl
      obtain ⟨t1, t2, t3, ⟨ra, ra1, ra2, ra3⟩, t5, t6, t7⟩ := id T1
      have fi : Value.int (nI i + Int32.ofInt 1) = vI (i + 1) := congrArg Value.int (by rw [nI_1', nI_add])
      refine WS.sel [3, 1, 0] hl ?_
      iterate 2 refine fst1_ok X (dk rfl) rfl ?_
      refine br_ok X (dk rfl) rfl (show ((14 : Nat) : Int) + 48 = ((62 : Nat) : Int) from rfl) (fun q => absurd q (by rw [nI_32']; exact nI_ge (by omega) (by omega))) (fun _ => ?_)
      refine fst1_ok X (dk rfl) rfl ?_
      refine getf_ok X flX1_20 (dk rfl) t3 rfl ?_
      iterate 2 refine fst1_ok X (dk rfl) rfl ?_
      refine getf_ok X flX1_16 (dk rfl) t3 rfl ?_
      refine fst1_ok X (dk rfl) rfl ?_
      refine callVR_ok (ci := 7) (T := TX5) (N := 3) (av := [vI i]) (r := [vI i, .ref (Q 61)]) X E (s5_firstLike h1 t1 (ib := 51) (by omega) hX t2 (z := i) (by omega)) lkX5_firstLike mlX1_41 lmX5_firstLike lpX5_firstLike ⟨Nat.le_of_ble_eq_true rfl, Nat.le_of_ble_eq_true rfl⟩ ⟨Nat.le_of_ble_eq_true rfl, Nat.le_of_ble_eq_true rfl⟩ rfl ⟨_, (t1 51 (by omega)).2.1⟩ (Nat.le_of_ble_eq_true rfl) (dk rfl) ?_
      rintro _ rfl
      refine ast7_ok X (dk rfl) ra1 (nI_pos (by omega)) (by rw [nI_clamp (by omega)]; omega) ?_
      rw [nI_clamp (by omega)]
      have T2 := T1.s1 Y ra1 (x := i) (by omega) (nI (flX (one ++ other) i))
      have f2 := f1.set (LCl_q P Q).1 (107, (ra.set i (nI (flX (one ++ other) i))).map Value.int)
      obtain ⟨s1, s2, s3, s4, ⟨rb, rb1, rb2, rb3⟩, s6, s7⟩ := id T2
      refine fst1_ok X (dk rfl) rfl ?_
      refine getf_ok X flX1_24 (dk rfl) s3 rfl ?_
      iterate 2 refine fst1_ok X (dk rfl) rfl ?_
      refine getf_ok X flX1_16 (dk rfl) s3 rfl ?_
      refine fst1_ok X (dk rfl) rfl ?_
      refine callVR_ok (ci := 7) (T := TX5) (N := 3) (av := [vI i]) (r := [vI i, .ref (Q 62)]) X E (s5_letterAt _ s1 (i := 51) (by omega) (nI i)) lkX5_letterAt mlX1_45 lmX5_letterAt lpX5_letterAt ⟨Nat.le_of_ble_eq_true rfl, Nat.le_of_ble_eq_true rfl⟩ ⟨Nat.le_of_ble_eq_true rfl, Nat.le_of_ble_eq_true rfl⟩ rfl ⟨_, (s1 51 (by omega)).2.1⟩ (Nat.le_of_ble_eq_true rfl) (dk rfl) ?_
      rintro _ rfl
      rcases Nat.lt_or_ge i (one ++ other).length with hil | hil
      · have hgi := gl_get hil
        have ogi := gl_ok hX hil
        have lti := ogi.lt
        rw [s2.lt hgi (by omega)]
        refine callNR_ok (av := [vI (gl (one ++ other) i)]) (r := [vI i, .ref (Q 62)]) X E (s6_isHead _ (x := gl (one ++ other) i) (by omega)) lkX6_isHead mnX1_48 lsX6_isHead ⟨Nat.le_of_ble_eq_true rfl, Nat.le_of_ble_eq_true rfl⟩ ⟨Nat.le_of_ble_eq_true rfl, Nat.le_of_ble_eq_true rfl⟩ (Nat.le_of_ble_eq_true rfl) (dk rfl) ?_
        rintro _ rfl
        by_cases h10 : 10 ≤ gl (one ++ other) i
        · rw [decide_eq_true ⟨h10, by rcases ogi with z | z <;> omega⟩]
          refine br_ok X (dk rfl) rfl (show ((47 : Nat) : Int) + 7 = ((54 : Nat) : Int) from rfl) (fun q => absurd q bI_t) (fun _ => ?_)
          have ehd : nI i = pK (hd0 (one ++ other)) i := by
            show _ = pI (hd0 (one ++ other) i)
            unfold hd0
            rw [if_pos ⟨hil, h10⟩]
            rfl
          refine fst1_ok X (dk rfl) rfl ?_
          refine br_ok X (dk rfl) rfl (show ((51 : Nat) : Int) + 4 = ((55 : Nat) : Int) from rfl) (fun _ => ?_) (fun q => absurd trivial q)
          refine ast7_ok X (dk rfl) rb1 (nI_pos (by omega)) (by rw [nI_clamp (by omega)]; omega) ?_
          rw [nI_clamp (by omega)]
          have T3 := T2.s2 Y rb1 (x := i) (by omega) (nI i)
          have f3 := f2.set (LCl_q P Q).2.1 (107, (rb.set i (nI i)).map Value.int)
          refine fst1_ok X (dk rfl) rfl ?_
          refine br_ok X (dk rfl) rfl (show ((59 : Nat) : Int) + (-48) = ((11 : Nat) : Int) from rfl) (fun _ => ?_) (fun q => absurd trivial q)
          refine WS.sel (l' := [(3, vI (i + 1)), (1, .ref (B i1)), (0, .ref (P 5))]) [3, 1, 0] (by rw [← fi]; rfl) ?_
          exact ih (i + 1) _ _ g3 _ (by omega) T3 (fun y hy => by
            unfold up1
            by_cases e9 : y = i
            · rw [if_pos e9, if_pos e9, e9]
              exact ⟨rfl, ehd⟩
            · rw [if_neg e9, if_neg e9]
              exact hg y (by omega)) f3 _ rfl
        · rw [decide_eq_false (fun z => h10 z.1)]
          have hno : ¬ (i < (one ++ other).length ∧ 10 ≤ gl (one ++ other) i) := fun z => h10 z.2
          refine br_ok X (dk rfl) rfl (show ((47 : Nat) : Int) + 7 = ((54 : Nat) : Int) from rfl) (fun _ => ?_) (fun q => absurd bI_f' q)
          have ehd : Int32.ofInt (-1) = pK (hd0 (one ++ other)) i := by
            show _ = pI (hd0 (one ++ other) i)
            unfold hd0
            rw [if_neg hno]
            rfl
          refine fst1_ok X (dk rfl) rfl ?_
          refine ast7_ok X (dk rfl) rb1 (nI_pos (by omega)) (by rw [nI_clamp (by omega)]; omega) ?_
          rw [nI_clamp (by omega)]
          have T3 := T2.s2 Y rb1 (x := i) (by omega) (Int32.ofInt (-1))
          have f3 := f2.set (LCl_q P Q).2.1 (107, (rb.set i (Int32.ofInt (-1))).map Value.int)
          refine fst1_ok X (dk rfl) rfl ?_
          refine br_ok X (dk rfl) rfl (show ((59 : Nat) : Int) + (-48) = ((11 : Nat) : Int) from rfl) (fun _ => ?_) (fun q => absurd trivial q)
          refine WS.sel (l' := [(3, vI (i + 1)), (1, .ref (B i1)), (0, .ref (P 5))]) [3, 1, 0] (by rw [← fi]; rfl) ?_
          exact ih (i + 1) _ _ g3 _ (by omega) T3 (fun y hy => by
            unfold up1
            by_cases e9 : y = i
            · rw [if_pos e9, if_pos e9, e9]
              exact ⟨rfl, ehd⟩
            · rw [if_neg e9, if_neg e9]
              exact hg y (by omega)) f3 _ rfl
      · rw [s2.out hil (by omega)]
        have hno : ¬ (i < (one ++ other).length ∧ 10 ≤ gl (one ++ other) i) := fun z => by omega
        refine callNR_ok (av := [.int (Int8.ofInt (-9)).toInt32]) (r := [vI i, .ref (Q 62)]) X E (s6_isHead9 _) lkX6_isHead mnX1_48 lsX6_isHead ⟨Nat.le_of_ble_eq_true rfl, Nat.le_of_ble_eq_true rfl⟩ ⟨Nat.le_of_ble_eq_true rfl, Nat.le_of_ble_eq_true rfl⟩ (Nat.le_of_ble_eq_true rfl) (dk rfl) ?_
        rintro _ rfl
        refine br_ok X (dk rfl) rfl (show ((47 : Nat) : Int) + 7 = ((54 : Nat) : Int) from rfl) (fun _ => ?_) (fun q => absurd bI_f' q)
        have ehd : Int32.ofInt (-1) = pK (hd0 (one ++ other)) i := by
          show _ = pI (hd0 (one ++ other) i)
          unfold hd0
          rw [if_neg hno]
          rfl
        refine fst1_ok X (dk rfl) rfl ?_
        refine ast7_ok X (dk rfl) rb1 (nI_pos (by omega)) (by rw [nI_clamp (by omega)]; omega) ?_
        rw [nI_clamp (by omega)]
        have T3 := T2.s2 Y rb1 (x := i) (by omega) (Int32.ofInt (-1))
        have f3 := f2.set (LCl_q P Q).2.1 (107, (rb.set i (Int32.ofInt (-1))).map Value.int)
        refine fst1_ok X (dk rfl) rfl ?_
        refine br_ok X (dk rfl) rfl (show ((59 : Nat) : Int) + (-48) = ((11 : Nat) : Int) from rfl) (fun _ => ?_) (fun q => absurd trivial q)
        refine WS.sel (l' := [(3, vI (i + 1)), (1, .ref (B i1)), (0, .ref (P 5))]) [3, 1, 0] (by rw [← fi]; rfl) ?_
        exact ih (i + 1) _ _ g3 _ (by omega) T3 (fun y hy => by
          unfold up1
          by_cases e9 : y = i
          · rw [if_pos e9, if_pos e9, e9]
            exact ⟨rfl, ehd⟩
          · rw [if_neg e9, if_neg e9]
            exact hg y (by omega)) f3 _ rfl
  obtain ⟨r1, r2, r3, r4, r5⟩ := id C.2.2.2
  refine fst1_ok X (dk rfl) rfl ?_
  refine getf_ok X flX1_16 (dk rfl) r2 rfl ?_
  iterate 2 refine fst1_ok X (dk rfl) rfl ?_
  refine callVT_ok (ci := 7) (T := TX5) (N := 3) (av := [.ref (B i1), .ref (B i2)]) (r := []) X E (s5_becomeBoth h Y C.1 (i := 51) (by omega) (j := i1) h1i h1n (k := i2) h2i h2n (by rw [hl1, hl2, hrm]; rw [List.length_append] at hX32; omega)) lkX5_becomeBoth mlX1_37 lmX5_becomeBoth lpX5_becomeBoth ⟨Nat.le_of_ble_eq_true rfl, Nat.le_of_ble_eq_true rfl⟩ ⟨Nat.le_of_ble_eq_true rfl, Nat.le_of_ble_eq_true rfl⟩ rfl (C.1 51 (by omega)).2.1 (Nat.le_of_ble_eq_true rfl) (dk rfl) (fun h1 S1 f1 => ?_)
  have C1 := C.tm Y S1 f1
  obtain ⟨-, g1, -, -, g5⟩ := id C1.2.2.2
  obtain ⟨xa, xa1, xa2⟩ := g5 61 (by decide) (by decide)
  obtain ⟨xb, xb1, xb2⟩ := g5 62 (by decide) (by decide)
  obtain ⟨xc, xc1, xc2⟩ := g5 63 (by decide) (by decide)
  obtain ⟨ga1, RA⟩ := RW1.ex xa1 xa2
  obtain ⟨gb1, RB⟩ := RW1.ex xb1 xb2
  obtain ⟨gc1, RC⟩ := RW1.ex xc1 xc2
  have W1 := C1.2.2.2.prw (k := 1) (by decide)
  iterate 2 refine fst1_ok X (dk rfl) rfl ?_
  exact fill 32 0 ga1 gb1 gc1 h1 rfl ⟨S1, NX, g1, RA, RB, RC, W1⟩ (fun y hy => absurd hy (Nat.not_lt_zero y)) (f1.u _) _ rfl
set_option maxHeartbeats 32000000 in
theorem s6_ansSound (h : AH) (Y : LYO B Q) (C : CLS B Q P ox kn h F d r) {j : Nat} (hj : j < 6) {nj : List Nat} (tj : TN (F j) nj) (wj : TW nj) (lj : nj.length ≤ 16) {i : Nat} (hi : i < 6) {ni : List Nat} (ti : TN (F i) ni) (wi : TW ni) (li : ni.length ≤ 16) {rows : List (List Nat)} (m1 : MDR F 34 rows) (m2 : MDR F 42 rows) (hu : AO rows → usedL rows nj = usedL rows ni) : CT la D cA B0 pa yX6_areAnswersSound cX6_areAnswersSound 3 (some .boolean) (rmD 5 0 0) [.ref ox, .ref (B j), .ref (B i)] h (fun v h' => v = some (.int (bI true)) ∧ ∃ F', CLS B Q P ox kn h' F' d r ∧ (∀ q, q < 30 → F' q = F q) ∧ FrC h h') := by
  refine CT_of (by decide +kernel) (Nat.le_of_ble_eq_true rfl) ?_
  intro p e s m args below meth c X E hr hlk hnm
  have dk : ∀ {pc : Nat} {q : Instr × Nat}, lkd DX6_areAnswersSound pc = some q → decode cX6_areAnswersSound pc = .ok q := lkd_ok DX6_areAnswersSound_ok
  have oa := C.2.2.1.2.2.2.1
  have ob := C.2.2.1.2.2.2.2
  have e1 := m1.tl
  have e2 := m2.tl
  refine fst1_ok X (dk rfl) rfl ?_
  refine getf_ok X flX6_38 (dk rfl) C.2.1 rfl ?_
  refine callVR_ok (ci := 2) (T := TX0) (N := 1) (av := []) (r := []) X E (s0_isTooLong h C.1 oa) lkX0_isTooLong mlX6_230 lmX0_isTooLong lpX0_isTooLong ⟨Nat.le_of_ble_eq_true rfl, Nat.le_of_ble_eq_true rfl⟩ ⟨Nat.le_of_ble_eq_true rfl, Nat.le_of_ble_eq_true rfl⟩ rfl ⟨_, oa.2.choose_spec.1⟩ (Nat.le_of_ble_eq_true rfl) (dk rfl) ?_
  rintro _ rfl
  rw [e1]
  cases eb : rows.any (fun z => decide (16 < z.length)) with
  | true =>
    refine br_ok X (dk rfl) rfl (show ((7 : Nat) : Int) + 15 = ((22 : Nat) : Int) from rfl) (fun q => absurd q bI_t) (fun _ => ?_)
    refine fst1_ok X (dk rfl) rfl ?_
    refine getf_ok X flX6_42 (dk rfl) C.2.1 rfl ?_
    refine callVR_ok (ci := 2) (T := TX0) (N := 1) (av := []) (r := []) X E (s0_isTooLong h C.1 ob) lkX0_isTooLong mlX6_230 lmX0_isTooLong lpX0_isTooLong ⟨Nat.le_of_ble_eq_true rfl, Nat.le_of_ble_eq_true rfl⟩ ⟨Nat.le_of_ble_eq_true rfl, Nat.le_of_ble_eq_true rfl⟩ rfl ⟨_, ob.2.choose_spec.1⟩ (Nat.le_of_ble_eq_true rfl) (dk rfl) ?_
    rintro _ rfl
    rw [e2, eb]
    refine br_ok X (dk rfl) rfl (show ((17 : Nat) : Int) + 5 = ((22 : Nat) : Int) from rfl) (fun q => absurd q bI_t) (fun _ => ?_)
    refine fst1_ok X (dk rfl) rfl ?_
    exact reti_ok X hr hlk (bI_n true) (dk rfl) (⟨rfl, _, C, fun _ _ => rfl, FrC.rf _⟩) (Nat.le_of_ble_eq_true rfl) (Nat.le_of_ble_eq_true rfl)
  | false =>
    have R1 := m1.short eb
    have R2 := m2.short eb
    refine br_ok X (dk rfl) rfl (show ((7 : Nat) : Int) + 15 = ((22 : Nat) : Int) from rfl) (fun _ => ?_) (fun q => absurd bI_f' q)
    refine fst1_ok X (dk rfl) rfl ?_
    refine getf_ok X flX6_38 (dk rfl) C.2.1 rfl ?_
    refine callVR_ok (ci := 2) (T := TX0) (N := 1) (av := []) (r := []) X E (s0_isTooLong h C.1 oa) lkX0_isTooLong mlX6_230 lmX0_isTooLong lpX0_isTooLong ⟨Nat.le_of_ble_eq_true rfl, Nat.le_of_ble_eq_true rfl⟩ ⟨Nat.le_of_ble_eq_true rfl, Nat.le_of_ble_eq_true rfl⟩ rfl ⟨_, oa.2.choose_spec.1⟩ (Nat.le_of_ble_eq_true rfl) (dk rfl) ?_
    rintro _ rfl
    rw [e1, eb]
    refine br_ok X (dk rfl) rfl (show ((29 : Nat) : Int) + 45 = ((74 : Nat) : Int) from rfl) (fun q => absurd q bI_f) (fun _ => ?_)
    refine fst1_ok X (dk rfl) rfl ?_
    refine getf_ok X flX6_42 (dk rfl) C.2.1 rfl ?_
    refine callVR_ok (ci := 2) (T := TX0) (N := 1) (av := []) (r := []) X E (s0_isTooLong h C.1 ob) lkX0_isTooLong mlX6_230 lmX0_isTooLong lpX0_isTooLong ⟨Nat.le_of_ble_eq_true rfl, Nat.le_of_ble_eq_true rfl⟩ ⟨Nat.le_of_ble_eq_true rfl, Nat.le_of_ble_eq_true rfl⟩ rfl ⟨_, ob.2.choose_spec.1⟩ (Nat.le_of_ble_eq_true rfl) (dk rfl) ?_
    rintro _ rfl
    rw [e2, eb]
    refine br_ok X (dk rfl) rfl (show ((39 : Nat) : Int) + 35 = ((74 : Nat) : Int) from rfl) (fun q => absurd q bI_f) (fun _ => ?_)
    refine fst1_ok X (dk rfl) rfl ?_
    refine getf_ok X flX6_38 (dk rfl) C.2.1 rfl ?_
    refine fst1_ok X (dk rfl) rfl ?_
    refine getf_ok X flX6_42 (dk rfl) C.2.1 rfl ?_
    refine callVR_ok (ci := 2) (T := TX0) (N := 1) (av := [.ref (P 3)]) (r := []) X E (s0_firstUnlike h C.1 oa ob R1 R2) lkX0_firstUnlike mlX6_233 lmX0_firstUnlike lpX0_firstUnlike ⟨Nat.le_of_ble_eq_true rfl, Nat.le_of_ble_eq_true rfl⟩ ⟨Nat.le_of_ble_eq_true rfl, Nat.le_of_ble_eq_true rfl⟩ rfl ⟨_, oa.2.choose_spec.1⟩ (Nat.le_of_ble_eq_true rfl) (dk rfl) ?_
    rintro _ rfl
    rw [(ulN_none m1.1 m1.1).mpr rfl]
    refine fst1_ok X (dk rfl) rfl ?_
    refine br_ok X (dk rfl) rfl (show ((54 : Nat) : Int) + 20 = ((74 : Nat) : Int) from rfl) (fun q => absurd rfl q) (fun _ => ?_)
    iterate 2 refine fst1_ok X (dk rfl) rfl ?_
    refine getf_ok X flX6_38 (dk rfl) C.2.1 rfl ?_
    iterate 2 refine fst1_ok X (dk rfl) rfl ?_
    refine callV_ok (ci := 8) (T := TX6) (N := 14) (av := [.ref (P 2), .ref (B j), .ref (B i)]) (r := []) X E (s6_isMade h Y C oa (by omega) R1 (j := j) (by omega) tj wj lj (i := i) (by omega) ti wi li) lkX6_isMadeAlikeBy mlX6_222 lmX6_isMadeAlikeBy lpX6_isMadeAlikeBy ⟨Nat.le_of_ble_eq_true rfl, Nat.le_of_ble_eq_true rfl⟩ ⟨Nat.le_of_ble_eq_true rfl, Nat.le_of_ble_eq_true rfl⟩ rfl C.2.1 (Nat.le_of_ble_eq_true rfl) (dk rfl) ?_
    rintro _ h2 ⟨rfl, F2, C2, eF, f2⟩
    rw [decide_eq_true (hu R1.ao)]
    refine br_ok X (dk rfl) rfl (show ((67 : Nat) : Int) + 7 = ((74 : Nat) : Int) from rfl) (fun q => absurd q bI_t) (fun _ => ?_)
    refine fst1_ok X (dk rfl) rfl ?_
    refine br_ok X (dk rfl) rfl (show ((71 : Nat) : Int) + 4 = ((75 : Nat) : Int) from rfl) (fun _ => ?_) (fun q => absurd trivial q)
    exact reti_ok X hr hlk (bI_n true) (dk rfl) (⟨rfl, F2, C2, fun q hq => eF q (by omega) (by omega), f2⟩) (Nat.le_of_ble_eq_true rfl) (Nat.le_of_ble_eq_true rfl)
set_option maxHeartbeats 32000000 in
theorem s6_comSound (h : AH) (Y : LYO B Q) (C : CLS B Q P ox kn h F d r) {j : Nat} (hj : j < 6) {nj : List Nat} (tj : TN (F j) nj) (wj : TW nj) (lj : nj.length ≤ 16) {i : Nat} (hi : i < 6) {ni : List Nat} (ti : TN (F i) ni) (wi : TW ni) (li : ni.length ≤ 16) : CT la D cA B0 pa yX6_isCommonSound cX6_isCommonSound 3 (some .boolean) (rmD 5 0 0) [.ref ox, .ref (B j), .ref (B i)] h (fun v h' => v = some (.int (bI true)) ∧ ∃ F', CLS B Q P ox kn h' F' d r ∧ (∀ q, q < 30 → F' q = F q) ∧ FrC h h') := by
  refine CT_of (by decide +kernel) (Nat.le_of_ble_eq_true rfl) ?_
  intro p e s m args below meth c X E hr hlk hnm
  have dk : ∀ {pc : Nat} {q : Instr × Nat}, lkd DX6_isCommonSound pc = some q → decode cX6_isCommonSound pc = .ok q := lkd_ok DX6_isCommonSound_ok
  have hpr := C.2.2.2.prw (k := 2) (by decide)
  have hsh := C.2.2.2.2.2.1
  have oa := C.2.2.1.2.2.2.1
  refine fst1_ok X (dk rfl) rfl ?_
  refine getf_ok X flX6_62 (dk rfl) C.2.1 rfl ?_
  iterate 3 refine fst1_ok X (dk rfl) rfl ?_
  refine getf_ok X flX6_24 (dk rfl) C.2.1 rfl ?_
  refine callV_ok (ci := 5) (T := TX3) (N := 1) (av := [.ref (B j), .ref (B i), .ref (B 30)]) (r := []) X E (s3_drawInto h Y hpr (hAq Y (by decide) (by decide) (by decide) (by decide)) C.1 hsh (Yne Y (by decide) (by decide) (by decide)) (i1 := j) (by omega) tj wj lj (i2 := i) (by omega) ti wi li (i3 := 30) (by omega) (by omega) (by omega)) lkX3_drawInto mlX6_159 lmX3_drawInto lpX3_drawInto ⟨Nat.le_of_ble_eq_true rfl, Nat.le_of_ble_eq_true rfl⟩ ⟨Nat.le_of_ble_eq_true rfl, Nat.le_of_ble_eq_true rfl⟩ rfl hsh (Nat.le_of_ble_eq_true rfl) (dk rfl) ?_
  rintro _ h2 ⟨rfl, W2, S2, f2⟩
  obtain ⟨C2, g2⟩ := C.sh Y S2 W2 f2
  by_cases h8 : (comL nj ni).1.length ≤ 8
  · obtain ⟨wc, lc⟩ := comL_ok wj wi lj li h8
    obtain ⟨q1, q2⟩ := comL_match h8
    have oa2 := C2.2.2.1.2.2.2.1
    have t30 : TN (upF F 30 ((comL nj ni).2.map nI, false) 30) (comL nj ni).2 := by
      rw [upF_self]
      exact ⟨rfl, wc.2⟩
    have tj2 : TN (upF F 30 ((comL nj ni).2.map nI, false) j) nj := by
      rw [upF_ne _ _ (by omega)]
      exact tj
    rw [decide_eq_true h8]
    refine br_ok X (dk rfl) rfl (show ((13 : Nat) : Int) + 33 = ((46 : Nat) : Int) from rfl) (fun q => absurd q bI_t) (fun _ => ?_)
    refine fst1_ok X (dk rfl) rfl ?_
    refine getf_ok X flX6_38 (dk rfl) C2.2.1 rfl ?_
    refine fst1_ok X (dk rfl) rfl ?_
    refine getf_ok X flX6_24 (dk rfl) C2.2.1 rfl ?_
    refine fst1_ok X (dk rfl) rfl ?_
    refine callV_ok (ci := 2) (T := TX0) (N := 1) (av := [.ref (B 30), .ref (B j)]) (r := []) X E (s0_becomeMatch h2 Y C2.1 oa2 (fun n hn => by unfold rmI; rw [if_neg (by omega), if_neg (by omega), if_pos (by omega)]) (i1 := 30) (by omega) t30 (by omega) (i2 := j) (by omega) tj2 (by omega) wj lj) lkX0_becomeMatch mlX6_194 lmX0_becomeMatch lpX0_becomeMatch ⟨Nat.le_of_ble_eq_true rfl, Nat.le_of_ble_eq_true rfl⟩ ⟨Nat.le_of_ble_eq_true rfl, Nat.le_of_ble_eq_true rfl⟩ rfl oa2.2.choose_spec.1 (Nat.le_of_ble_eq_true rfl) (dk rfl) ?_
    rintro _ h3 ⟨rfl, f3, G3, S3, g3⟩
    have C3 := C2.tm Y S3 f3
    have oa3 := C3.2.2.1.2.2.2.1
    have t31 : TN (upK (upF F 30 ((comL nj ni).2.map nI, false)) 34 G3 8 30) (comL nj ni).2 := by
      rw [upK_out _ _ _ (by omega)]
      exact t30
    have ti3 : TN (upK (upF F 30 ((comL nj ni).2.map nI, false)) 34 G3 8 i) ni := by
      rw [upK_out _ _ _ (by omega), upF_ne _ _ (by omega)]
      exact ti
    rw [q1]
    refine br_ok X (dk rfl) rfl (show ((28 : Nat) : Int) + 22 = ((50 : Nat) : Int) from rfl) (fun q => absurd q bI_t) (fun _ => ?_)
    refine fst1_ok X (dk rfl) rfl ?_
    refine getf_ok X flX6_38 (dk rfl) C3.2.1 rfl ?_
    refine fst1_ok X (dk rfl) rfl ?_
    refine getf_ok X flX6_24 (dk rfl) C3.2.1 rfl ?_
    refine fst1_ok X (dk rfl) rfl ?_
    refine callV_ok (ci := 2) (T := TX0) (N := 1) (av := [.ref (B 30), .ref (B i)]) (r := []) X E (s0_becomeMatch h3 Y C3.1 oa3 (fun n hn => by unfold rmI; rw [if_neg (by omega), if_neg (by omega), if_pos (by omega)]) (i1 := 30) (by omega) t31 (by omega) (i2 := i) (by omega) ti3 (by omega) wi li) lkX0_becomeMatch mlX6_194 lmX0_becomeMatch lpX0_becomeMatch ⟨Nat.le_of_ble_eq_true rfl, Nat.le_of_ble_eq_true rfl⟩ ⟨Nat.le_of_ble_eq_true rfl, Nat.le_of_ble_eq_true rfl⟩ rfl oa3.2.choose_spec.1 (Nat.le_of_ble_eq_true rfl) (dk rfl) ?_
    rintro _ h4 ⟨rfl, f4, G4, S4, g4⟩
    have C4 := C3.tm Y S4 f4
    rw [q2]
    refine br_ok X (dk rfl) rfl (show ((43 : Nat) : Int) + 7 = ((50 : Nat) : Int) from rfl) (fun q => absurd q bI_t) (fun _ => ?_)
    refine fst1_ok X (dk rfl) rfl ?_
    refine br_ok X (dk rfl) rfl (show ((47 : Nat) : Int) + 4 = ((51 : Nat) : Int) from rfl) (fun _ => ?_) (fun q => absurd trivial q)
    exact reti_ok X hr hlk (bI_n true) (dk rfl) (⟨rfl, _, C4, fun q hq => by rw [upK_out _ _ _ (by omega), upK_out _ _ _ (by omega), upF_ne _ _ (by omega)], (g2.trans (f3.frC C2.1)).trans (f4.frC C3.1)⟩) (Nat.le_of_ble_eq_true rfl) (Nat.le_of_ble_eq_true rfl)
  · rw [decide_eq_false h8]
    refine br_ok X (dk rfl) rfl (show ((13 : Nat) : Int) + 33 = ((46 : Nat) : Int) from rfl) (fun _ => ?_) (fun q => absurd bI_f' q)
    refine fst1_ok X (dk rfl) rfl ?_
    refine br_ok X (dk rfl) rfl (show ((47 : Nat) : Int) + 4 = ((51 : Nat) : Int) from rfl) (fun _ => ?_) (fun q => absurd trivial q)
    exact reti_ok X hr hlk (bI_n true) (dk rfl) (⟨rfl, _, C2, fun q hq => upF_ne _ _ (by omega), g2⟩) (Nat.le_of_ble_eq_true rfl) (Nat.le_of_ble_eq_true rfl)
set_option maxHeartbeats 32000000 in
theorem s6_plaSound (h : AH) (Y : LYO B Q) (C : CLS B Q P ox kn h F d r) {j : Nat} (hj : j < 6) {nj : List Nat} (tj : TN (F j) nj) (wj : TW nj) (lj : nj.length ≤ 16) : CT la D cA B0 pa yX6_isPlainSound cX6_isPlainSound 2 (some .boolean) (rmD 5 0 0) [.ref ox, .ref (B j)] h (fun v h' => v = some (.int (bI true)) ∧ ∃ F', CLS B Q P ox kn h' F' d r ∧ (∀ q, q < 30 → F' q = F q) ∧ FrC h h') := by
  refine CT_of (by decide +kernel) (Nat.le_of_ble_eq_true rfl) ?_
  intro p e s m args below meth c X E hr hlk hnm
  have dk : ∀ {pc : Nat} {q : Instr × Nat}, lkd DX6_isPlainSound pc = some q → decode cX6_isPlainSound pc = .ok q := lkd_ok DX6_isPlainSound_ok
  obtain ⟨q1, q2⟩ := plP_match wj
  obtain ⟨wp, lp⟩ := wj.pl8
  refine fst1_ok X (dk rfl) rfl ?_
  refine getf_ok X flX6_24 (dk rfl) C.2.1 rfl ?_
  refine fst1_ok X (dk rfl) rfl ?_
  refine callVT_ok (ci := 7) (T := TX5) (N := 3) (av := [.ref (B j)]) (r := []) X E (s5_becomePlainOf h Y C.1 (i := 30) (by omega) (j := j) (by omega) (by omega) tj (by rw [show rmI 30 = 16 from rfl]; exact lj)) lkX5_becomePlainOf mlX6_148 lmX5_becomePlainOf lpX5_becomePlainOf ⟨Nat.le_of_ble_eq_true rfl, Nat.le_of_ble_eq_true rfl⟩ ⟨Nat.le_of_ble_eq_true rfl, Nat.le_of_ble_eq_true rfl⟩ rfl (C.1 30 (by omega)).2.1 (Nat.le_of_ble_eq_true rfl) (dk rfl) (fun h2 S2 f2 => ?_)
  have C2 := C.tm Y S2 f2
  have oa2 := C2.2.2.1.2.2.2.1
  have t30 : TN (upF F 30 ((plP nj).map nI, false) 30) (plP nj) := by
    rw [upF_self]
    exact ⟨rfl, wp.2⟩
  have tj2 : TN (upF F 30 ((plP nj).map nI, false) j) nj := by
    rw [upF_ne _ _ (by omega)]
    exact tj
  refine fst1_ok X (dk rfl) rfl ?_
  refine getf_ok X flX6_38 (dk rfl) C2.2.1 rfl ?_
  iterate 2 refine fst1_ok X (dk rfl) rfl ?_
  refine getf_ok X flX6_24 (dk rfl) C2.2.1 rfl ?_
  refine callV_ok (ci := 2) (T := TX0) (N := 1) (av := [.ref (B j), .ref (B 30)]) (r := []) X E (s0_becomeMatch h2 Y C2.1 oa2 (fun n hn => by unfold rmI; rw [if_neg (by omega), if_neg (by omega), if_pos (by omega)]) (i1 := j) (by omega) tj2 (by omega) (i2 := 30) (by omega) t30 (by omega) wp (by rw [lp]; exact lj)) lkX0_becomeMatch mlX6_194 lmX0_becomeMatch lpX0_becomeMatch ⟨Nat.le_of_ble_eq_true rfl, Nat.le_of_ble_eq_true rfl⟩ ⟨Nat.le_of_ble_eq_true rfl, Nat.le_of_ble_eq_true rfl⟩ rfl oa2.2.choose_spec.1 (Nat.le_of_ble_eq_true rfl) (dk rfl) ?_
  rintro _ h3 ⟨rfl, f3, G3, S3, g3⟩
  have C3 := C2.tm Y S3 f3
  have oa3 := C3.2.2.1.2.2.2.1
  have t31 : TN (upK (upF F 30 ((plP nj).map nI, false)) 34 G3 8 30) (plP nj) := by
    rw [upK_out _ _ _ (by omega)]
    exact t30
  have tj3 : TN (upK (upF F 30 ((plP nj).map nI, false)) 34 G3 8 j) nj := by
    rw [upK_out _ _ _ (by omega)]
    exact tj2
  rw [q1]
  refine br_ok X (dk rfl) rfl (show ((20 : Nat) : Int) + 22 = ((42 : Nat) : Int) from rfl) (fun q => absurd q bI_t) (fun _ => ?_)
  refine fst1_ok X (dk rfl) rfl ?_
  refine getf_ok X flX6_38 (dk rfl) C3.2.1 rfl ?_
  refine fst1_ok X (dk rfl) rfl ?_
  refine getf_ok X flX6_24 (dk rfl) C3.2.1 rfl ?_
  refine fst1_ok X (dk rfl) rfl ?_
  refine callV_ok (ci := 2) (T := TX0) (N := 1) (av := [.ref (B 30), .ref (B j)]) (r := []) X E (s0_becomeMatch h3 Y C3.1 oa3 (fun n hn => by unfold rmI; rw [if_neg (by omega), if_neg (by omega), if_pos (by omega)]) (i1 := 30) (by omega) t31 (by omega) (i2 := j) (by omega) tj3 (by omega) wj lj) lkX0_becomeMatch mlX6_194 lmX0_becomeMatch lpX0_becomeMatch ⟨Nat.le_of_ble_eq_true rfl, Nat.le_of_ble_eq_true rfl⟩ ⟨Nat.le_of_ble_eq_true rfl, Nat.le_of_ble_eq_true rfl⟩ rfl oa3.2.choose_spec.1 (Nat.le_of_ble_eq_true rfl) (dk rfl) ?_
  rintro _ h4 ⟨rfl, f4, G4, S4, g4⟩
  have C4 := C3.tm Y S4 f4
  rw [q2]
  refine br_ok X (dk rfl) rfl (show ((35 : Nat) : Int) + 7 = ((42 : Nat) : Int) from rfl) (fun q => absurd q bI_t) (fun _ => ?_)
  refine fst1_ok X (dk rfl) rfl ?_
  refine br_ok X (dk rfl) rfl (show ((39 : Nat) : Int) + 4 = ((43 : Nat) : Int) from rfl) (fun _ => ?_) (fun q => absurd trivial q)
  exact reti_ok X hr hlk (bI_n true) (dk rfl) (⟨rfl, _, C4, fun q hq => by rw [upK_out _ _ _ (by omega), upK_out _ _ _ (by omega), upF_ne _ _ (by omega)], ((f2.frC C.1).trans (f3.frC C2.1)).trans (f4.frC C3.1)⟩) (Nat.le_of_ble_eq_true rfl) (Nat.le_of_ble_eq_true rfl)
set_option maxHeartbeats 16000000 in
theorem s6_sizSound (h : AH) {st : ST} (C : CLS B Q P ox kn h F d r) (H : FS F st) (O : StO st) : CT la D cA B0 pa yX6_areSizesSound cX6_areSizesSound 5 (some .boolean) (rmD 5 0 0) [.ref ox] h (RP (.int (bI true)) h) := by
  refine CT_of (by decide +kernel) (Nat.le_of_ble_eq_true rfl) ?_
  intro p e s m args below meth c X E hr hlk hnm
  have dk : ∀ {pc : Nat} {q : Instr × Nat}, lkd DX6_areSizesSound pc = some q → decode cX6_areSizesSound pc = .ok q := lkd_ok DX6_areSizesSound_ok
  have loop : ∀ (d k : Nat), d = 6 - k → k ≤ 6 → ∀ l : List (Nat × Value), lsel l [3, 2, 1] = [(3, vI k), (2, vI 6), (1, .ref (P 0))] → WR p la e (rmD 5 0 0) s m args below meth c D cA B0 5 (RP (.int (bI true)) h) 10 l [] h 0 0 := by
    intro d
    induction d with
    | zero =>
      intro k hd hk l hl
      have hk2 : k = 6 := by omega
      subst hk2
      refine WS.sel [3, 2, 1] hl ?_
      iterate 2 refine fst1_ok X (dk rfl) rfl ?_
      refine br_ok X (dk rfl) rfl (show ((12 : Nat) : Int) + 39 = ((51 : Nat) : Int) from rfl) (fun _ => ?_) (fun q => absurd (Int32.le_refl _) q)
      refine fst1_ok X (dk rfl) rfl ?_
      exact reti_ok X hr hlk (bI_n true) (dk rfl) (⟨rfl, rfl⟩) (Nat.le_of_ble_eq_true rfl) (Nat.le_of_ble_eq_true rfl)
    | succ d ih =>
      intro k hd hk l hl
      obtain ⟨n1, sj, ej, tj, wj, lj⟩ := H.slot O (j := k) (by omega)
      have f3 : Value.int (nI k + Int32.ofInt 1) = vI (k + 1) := congrArg Value.int (by rw [nI_1', nI_add])
      have gx := wj.gx (by omega)
      have sl := shN_le n1
      refine WS.sel [3, 2, 1] hl ?_
      iterate 2 refine fst1_ok X (dk rfl) rfl ?_
      refine br_ok X (dk rfl) rfl (show ((12 : Nat) : Int) + 39 = ((51 : Nat) : Int) from rfl) (fun q => absurd q (nI_ge (a := k) (b := 6) (by omega) (by omega))) (fun _ => ?_)
      iterate 2 refine fst1_ok X (dk rfl) rfl ?_
      refine aldr_ok X (Or.inl rfl) (dk rfl) C.2.2.1.1 (by omega) (rgB_get B 0 (k := k) (by omega)) ?_
      rw [Nat.zero_add]
      iterate 2 refine fst1_ok X (dk rfl) rfl ?_
      refine callVR_ok (ci := 7) (T := TX5) (N := 3) (av := []) (r := []) X E (s5_length h C.1 (i := k) (by omega)) lkX5_length mlX6_76 lmX5_length lpX5_length ⟨Nat.le_of_ble_eq_true rfl, Nat.le_of_ble_eq_true rfl⟩ ⟨Nat.le_of_ble_eq_true rfl, Nat.le_of_ble_eq_true rfl⟩ rfl ⟨_, (C.1 k (by omega)).2.1⟩ (Nat.le_of_ble_eq_true rfl) (dk rfl) ?_
      rintro _ rfl
      rw [tj.len]
      refine fst1_ok X (dk rfl) rfl ?_
      refine br_ok X (dk rfl) rfl (show ((27 : Nat) : Int) + 16 = ((43 : Nat) : Int) from rfl) (fun q => absurd ((nI_leI (by omega) (by omega)).mpr lj) (by rw [← nI_16]; exact Int32.not_le.mpr q)) (fun _ => ?_)
      refine fst1_ok X (dk rfl) rfl ?_
      refine callVR_ok (ci := 7) (T := TX5) (N := 3) (av := []) (r := []) X E (s5_unlikePlaces h C.1 (i := k) (by omega) gx tj) lkX5_unlikePlaces mlX6_204 lmX5_unlikePlaces lpX5_unlikePlaces ⟨Nat.le_of_ble_eq_true rfl, Nat.le_of_ble_eq_true rfl⟩ ⟨Nat.le_of_ble_eq_true rfl, Nat.le_of_ble_eq_true rfl⟩ rfl ⟨_, (C.1 k (by omega)).2.1⟩ (Nat.le_of_ble_eq_true rfl) (dk rfl) ?_
      rintro _ rfl
      refine fst1_ok X (dk rfl) rfl ?_
      refine callVR_ok (ci := 7) (T := TX5) (N := 3) (av := []) (r := [vI (shN n1)]) X E (s5_length h C.1 (i := k) (by omega)) lkX5_length mlX6_76 lmX5_length lpX5_length ⟨Nat.le_of_ble_eq_true rfl, Nat.le_of_ble_eq_true rfl⟩ ⟨Nat.le_of_ble_eq_true rfl, Nat.le_of_ble_eq_true rfl⟩ rfl ⟨_, (C.1 k (by omega)).2.1⟩ (Nat.le_of_ble_eq_true rfl) (dk rfl) ?_
      rintro _ rfl
      rw [tj.len]
      refine br_ok X (dk rfl) rfl (show ((40 : Nat) : Int) + 5 = ((45 : Nat) : Int) from rfl) (fun _ => ?_) (fun q => absurd ((nI_leI (by omega) (by omega)).mpr sl) q)
      refine fst1_ok X (dk rfl) rfl ?_
      refine br_ok X (dk rfl) rfl (show ((48 : Nat) : Int) + (-38) = ((10 : Nat) : Int) from rfl) (fun _ => ?_) (fun q => absurd trivial q)
      refine WS.sel (l' := [(3, vI (k + 1)), (2, vI 6), (1, .ref (P 0))]) [3, 2, 1] (by rw [← f3]; rfl) ?_
      exact ih (k + 1) (by omega) (by omega) _ rfl
  refine fst1_ok X (dk rfl) rfl ?_
  refine getf_ok X flX6_11 (dk rfl) C.2.1 rfl ?_
  iterate 2 refine fst1_ok X (dk rfl) rfl ?_
  refine alen_ok X (by decide) (dk rfl) C.2.2.1.1 ?_
  rw [show ((rgB B 0 6).map Value.ref).length = 6 by simp [rgB]]
  iterate 3 refine fst1_ok X (dk rfl) rfl ?_
  exact loop 6 0 rfl (Nat.zero_le _) _ rfl
set_option maxHeartbeats 64000000 in
theorem s6_isSound (h : AH) (Y : LYO B Q) {st : ST} (C0 : StC B Q P ox kn h st) : CT la D cA B0 pa yX6_isSound cX6_isSound 5 (some .boolean) (rmD 8 0 0) [.ref ox] h (fun v h' => v = some (.int (bI true)) ∧ StC B Q P ox kn h' st ∧ FrC h h') := by
  refine CT_of (by decide +kernel) (Nat.le_of_ble_eq_true rfl) ?_
  intro p e s m args below meth c X E hr hlk hnm
  have dk : ∀ {pc : Nat} {q : Instr × Nat}, lkd DX6_isSound pc = some q → decode cX6_isSound pc = .ok q := lkd_ok DX6_isSound_ok
  obtain ⟨F, C, H, O⟩ := id C0
  obtain ⟨nj, sj, ej, tj, wj, lj⟩ := H.slot O (j := 0) (by decide)
  obtain ⟨ni, si, ei, ti, wi, li⟩ := H.slot O (j := 1) (by decide)
  have t1 : TW nj ∧ nj.length ≤ 16 := ⟨wj, lj⟩
  have t2 : TW ni ∧ ni.length ≤ 16 := ⟨wi, li⟩
  obtain ⟨bY, -, -⟩ := BY_of t1 t2
  obtain ⟨Gs, Sx, q1, q2, q3, q4, q5, q6, q7⟩ := runM_ok t1 t2
  have hsb := stepsB t1 t2 q1 q3 q4 q6 q7 (x := 0) rfl
  refine fst1_ok X (dk rfl) rfl ?_
  refine getf_ok X flX6_11 (dk rfl) C.2.1 rfl ?_
  refine fst1_ok X (dk rfl) rfl ?_
  refine aldr_ok X (Or.inl rfl) (dk rfl) C.2.2.1.1 (by decide) (rgB_get B 0 (n := 6) (k := 0) (by decide)) ?_
  rw [Nat.zero_add]
  iterate 2 refine fst1_ok X (dk rfl) rfl ?_
  refine getf_ok X flX6_11 (dk rfl) C.2.1 rfl ?_
  refine fst1_ok X (dk rfl) rfl ?_
  refine aldr_ok X (Or.inl rfl) (dk rfl) C.2.2.1.1 (by decide) (rgB_get B 0 (n := 6) (k := 1) (by decide)) ?_
  rw [Nat.zero_add]
  iterate 2 refine fst1_ok X (dk rfl) rfl ?_
  refine getf_ok X flX6_48 (dk rfl) C.2.1 rfl ?_
  iterate 2 refine fst1_ok X (dk rfl) rfl ?_
  refine callV_ok (ci := 6) (T := TX4) (N := 5) (av := [.ref (B 0), .ref (B 1)]) (r := []) X E (s4_makeAlike _ Y C (i1 := 0) (by omega) (by omega) (i2 := 1) (by omega) (by omega) tj ti t1 t2 q7 q5 q2.1) lkX4_makeAlike mlX6_185 lmX4_makeAlike lpX4_makeAlike ⟨Nat.le_of_ble_eq_true rfl, Nat.le_of_ble_eq_true rfl⟩ ⟨Nat.le_of_ble_eq_true rfl, Nat.le_of_ble_eq_true rfl⟩ rfl C.2.2.2.1.choose_spec.choose_spec (Nat.le_of_ble_eq_true rfl) (dk rfl) ?_
  rintro _ h2 ⟨rfl, f2, F2, ps, C2, eF, T2⟩
  have tj2 : TN (F2 0) nj := by rw [eF 0 (by decide)]; exact tj
  have ti2 : TN (F2 1) ni := by rw [eF 1 (by decide)]; exact ti
  iterate 2 refine fst1_ok X (dk rfl) rfl ?_
  refine getf_ok X flX6_55 (dk rfl) C2.2.1 rfl ?_
  iterate 2 refine fst1_ok X (dk rfl) rfl ?_
  refine callV_ok (ci := 3) (T := TX1) (N := 5) (av := [.ref (B 0), .ref (B 1)]) (r := []) X E (s1_makeAlikeU h2 Y C2 (i1 := 0) (by omega) (by omega) (i2 := 1) (by omega) (by omega) tj2 ti2 t1 t2) lkX1_makeAlike mlX6_189 lmX1_makeAlike lpX1_makeAlike ⟨Nat.le_of_ble_eq_true rfl, Nat.le_of_ble_eq_true rfl⟩ ⟨Nat.le_of_ble_eq_true rfl, Nat.le_of_ble_eq_true rfl⟩ rfl C2.2.2.2.2.1 (Nat.le_of_ble_eq_true rfl) (dk rfl) ?_
  rintro _ h3 ⟨fu3, b, rfl, hb, f3, F3, C3, eF3, T3⟩
  have hcb := classesB t1 t2 hb (x := 1) (by decide)
  have ebb : decide (Gs.2.2.1 = 0) = b := Bool.eq_iff_iff.mpr (hsb.trans (Iff.trans (by
    unfold PEx
    simp only [if_pos rfl, if_neg (show ¬ (1 : Int32) = 0 by decide)]
    exact canB_same t1 t2) hcb.symm))
  have tj3 : TN (F3 0) nj := by rw [eF3 0 (by decide)]; exact tj2
  have ti3 : TN (F3 1) ni := by rw [eF3 1 (by decide)]; exact ti2
  have H3 : FS F3 st := (H.cg (fun n hn => eF n (by omega))).cg (fun n hn => eF3 n (by omega))
  rw [ebb]
  have rest : ∀ (hh : AH) (F4 : Nat → TC), CLS B Q P ox kn hh F4 st.2.2.1 st.2.2.2 → (∀ q, q < 30 → F4 q = F3 q) → FrC h hh → ∀ l : List (Nat × Value), lsel l [2, 1, 0] = [(2, .ref (B 1)), (1, .ref (B 0)), (0, .ref ox)] → WR p la e (rmD 8 0 0) s m args below meth c D cA B0 5 (fun v h' => v = some (.int (bI true)) ∧ StC B Q P ox kn h' st ∧ FrC h h') 85 l [] hh 0 0 := by
    intro hh F4 C4 eF4 fr l hl
    have tj4 : TN (F4 0) nj := by rw [eF4 0 (by decide)]; exact tj3
    have ti4 : TN (F4 1) ni := by rw [eF4 1 (by decide)]; exact ti3
    refine WS.sel [2, 1, 0] hl ?_
    iterate 3 refine fst1_ok X (dk rfl) rfl ?_
    refine callV_ok (ci := 8) (T := TX6) (N := 14) (av := [.ref (B 0), .ref (B 1)]) (r := []) X E (s6_comSound hh Y C4 (j := 0) (by decide) tj4 wj lj (i := 1) (by decide) ti4 wi li) lkX6_isCommonSound mlX6_260 lmX6_isCommonSound lpX6_isCommonSound ⟨Nat.le_of_ble_eq_true rfl, Nat.le_of_ble_eq_true rfl⟩ ⟨Nat.le_of_ble_eq_true rfl, Nat.le_of_ble_eq_true rfl⟩ rfl C4.2.1 (Nat.le_of_ble_eq_true rfl) (dk rfl) ?_
    rintro _ h5 ⟨rfl, F5, C5, eF5, f5⟩
    refine br_ok X (dk rfl) rfl (show ((91 : Nat) : Int) + 22 = ((113 : Nat) : Int) from rfl) (fun q => absurd q bI_t) (fun _ => ?_)
    iterate 2 refine fst1_ok X (dk rfl) rfl ?_
    have tj5 : TN (F5 0) nj := by rw [eF5 0 (by decide)]; exact tj4
    refine callV_ok (ci := 8) (T := TX6) (N := 14) (av := [.ref (B 0)]) (r := []) X E (s6_plaSound h5 Y C5 (j := 0) (by decide) tj5 wj lj) lkX6_isPlainSound mlX6_263 lmX6_isPlainSound lpX6_isPlainSound ⟨Nat.le_of_ble_eq_true rfl, Nat.le_of_ble_eq_true rfl⟩ ⟨Nat.le_of_ble_eq_true rfl, Nat.le_of_ble_eq_true rfl⟩ rfl C5.2.1 (Nat.le_of_ble_eq_true rfl) (dk rfl) ?_
    rintro _ h6 ⟨rfl, F6, C6, eF6, f6⟩
    refine br_ok X (dk rfl) rfl (show ((99 : Nat) : Int) + 14 = ((113 : Nat) : Int) from rfl) (fun q => absurd q bI_t) (fun _ => ?_)
    refine fst1_ok X (dk rfl) rfl ?_
    have H6 : FS F6 st := ((H3.cg (fun n hn => eF4 n (by omega))).cg (fun n hn => eF5 n (by omega))).cg (fun n hn => eF6 n (by omega))
    refine callVR_ok (ci := 8) (T := TX6) (N := 14) (av := []) (r := []) X E (s6_sizSound h6 C6 H6 O) lkX6_areSizesSound mlX6_266 lmX6_areSizesSound lpX6_areSizesSound ⟨Nat.le_of_ble_eq_true rfl, Nat.le_of_ble_eq_true rfl⟩ ⟨Nat.le_of_ble_eq_true rfl, Nat.le_of_ble_eq_true rfl⟩ rfl ⟨_, C6.2.1⟩ (Nat.le_of_ble_eq_true rfl) (dk rfl) ?_
    rintro _ rfl
    refine br_ok X (dk rfl) rfl (show ((106 : Nat) : Int) + 7 = ((113 : Nat) : Int) from rfl) (fun q => absurd q bI_t) (fun _ => ?_)
    refine fst1_ok X (dk rfl) rfl ?_
    refine br_ok X (dk rfl) rfl (show ((110 : Nat) : Int) + 4 = ((114 : Nat) : Int) from rfl) (fun _ => ?_) (fun q => absurd trivial q)
    exact reti_ok X hr hlk (bI_n true) (dk rfl) (⟨rfl, ⟨F6, C6, H6, O⟩, (fr.trans f5).trans f6⟩) (Nat.le_of_ble_eq_true rfl) (Nat.le_of_ble_eq_true rfl)
  iterate 2 refine fst1_ok X (dk rfl) rfl ?_
  cases b with
  | false =>
    refine br_ok X (dk rfl) rfl (show ((36 : Nat) : Int) + 30 = ((66 : Nat) : Int) from rfl) (fun _ => ?_) (fun q => absurd bI_f' q)
    iterate 2 refine fst1_ok X (dk rfl) rfl ?_
    refine br_ok X (dk rfl) rfl (show ((69 : Nat) : Int) + 44 = ((113 : Nat) : Int) from rfl) (fun q => absurd rfl q) (fun _ => ?_)
    refine fst1_ok X (dk rfl) rfl ?_
    refine br_ok X (dk rfl) rfl (show ((73 : Nat) : Int) + 12 = ((85 : Nat) : Int) from rfl) (fun _ => ?_) (fun q => absurd bI_f' q)
    exact rest h3 F3 C3 (fun q hq => rfl) (f2.trans f3) _ rfl
  | true =>
    obtain ⟨k9, hd, f3', ps3, T4, HD, GD, AK, MK⟩ := T3 rfl
    have hw : Gs.2.2.1 = 0 := of_decide_eq_true ebb
    have ac := q6 hw
    obtain ⟨E1, hE1⟩ := ExP.ex bY.1 q3 ac
    have pe1 : PEs nj ni E1 := ⟨Gs, Sx, q1, hw, by rw [hw] at q7; exact q7, q3, ac, q4, hE1⟩
    refine br_ok X (dk rfl) rfl (show ((36 : Nat) : Int) + 30 = ((66 : Nat) : Int) from rfl) (fun q => absurd q bI_t) (fun _ => ?_)
    refine fst1_ok X (dk rfl) rfl ?_
    refine br_ok X (dk rfl) rfl (show ((41 : Nat) : Int) + 25 = ((66 : Nat) : Int) from rfl) (fun q => absurd q bI_t) (fun _ => ?_)
    refine fst1_ok X (dk rfl) rfl ?_
    refine getf_ok X flX6_48 (dk rfl) C3.2.1 rfl ?_
    refine fst1_ok X (dk rfl) rfl ?_
    refine getf_ok X flX6_38 (dk rfl) C3.2.1 rfl ?_
    have T2b := STP.cl Y C2 T2 fu3 C3.1 (eF3 50 (by decide))
    have oa := C3.2.2.1.2.2.2.1
    refine callV_ok (ci := 6) (T := TX4) (N := 5) (av := [.ref (P 2)]) (r := []) X E (s4_tellInto h3 Y T2b (oo := P 2) (f := 34) oa (fun n hn => by unfold rmI; rw [if_neg (by omega), if_neg (by omega), if_pos (by omega)]) bY.1 q3 ac hE1) lkX4_tellInto mlX6_190 lmX4_tellInto lpX4_tellInto ⟨Nat.le_of_ble_eq_true rfl, Nat.le_of_ble_eq_true rfl⟩ ⟨Nat.le_of_ble_eq_true rfl, Nat.le_of_ble_eq_true rfl⟩ rfl T2b.2.2.1 (Nat.le_of_ble_eq_true rfl) (dk rfl) ?_
    rintro _ h4 ⟨rfl, f4, G4, S4, g4⟩
    have C4 := C3.tm Y S4 f4
    have T5 := CTG.tm Y T4 S4 (upK_out _ _ _ (by decide)) f4
    have ob := C4.2.2.1.2.2.2.2
    refine fst1_ok X (dk rfl) rfl ?_
    refine getf_ok X flX6_55 (dk rfl) C4.2.1 rfl ?_
    refine fst1_ok X (dk rfl) rfl ?_
    refine getf_ok X flX6_42 (dk rfl) C4.2.1 rfl ?_
    refine callV_ok (ci := 3) (T := TX1) (N := 5) (av := [.ref (P 3)]) (r := []) X E (s1_tellInto h4 Y T5 bY HD GD AK (oo := P 3) (f := 42) ob (fun n hn => by unfold rmI; rw [if_neg (by omega), if_neg (by omega), if_pos (by omega)])) lkX1_tellInto mlX6_193 lmX1_tellInto lpX1_tellInto ⟨Nat.le_of_ble_eq_true rfl, Nat.le_of_ble_eq_true rfl⟩ ⟨Nat.le_of_ble_eq_true rfl, Nat.le_of_ble_eq_true rfl⟩ rfl T5.2.2.1 (Nat.le_of_ble_eq_true rfl) (dk rfl) ?_
    rintro _ h5 ⟨rfl, f5, S9, E2, G5, f6, sk, hE2, T6, g5⟩
    have C5 := C4.cl Y T6 f5
    have pe2 : PEc nj ni E2 := ⟨k9, S9, MK, AK, sk, hE2⟩
    have eE := pe1.same t1 t2 pe2
    have u1 := pe1.uni t1 t2
    have m1 : MDR (upK (upK F3 34 G4 8) 42 G5 8) 34 ((List.range 8).map E1) := ⟨by rw [List.length_map, List.length_range], fun n hn => ⟨E1 n, by rw [List.getElem?_map, List.getElem?_range hn]; rfl, by rw [upK_out _ _ _ (by omega), upK_in F3 34 G4 hn]; exact g4 n hn, u1.1 n hn⟩⟩
    have m2 : MDR (upK (upK F3 34 G4 8) 42 G5 8) 42 ((List.range 8).map E1) := ⟨by rw [List.length_map, List.length_range], fun n hn => ⟨E1 n, by rw [List.getElem?_map, List.getElem?_range hn]; rfl, by rw [upK_in _ 42 G5 hn, eE n hn]; exact g5 n hn, u1.1 n hn⟩⟩
    have ek : ∀ q, q < 30 → upK (upK F3 34 G4 8) 42 G5 8 q = F3 q := fun q hq => by rw [upK_out _ _ _ (by omega), upK_out _ _ _ (by omega)]
    have tj6 : TN (upK (upK F3 34 G4 8) 42 G5 8 0) nj := by rw [ek 0 (by decide)]; exact tj3
    have ti6 : TN (upK (upK F3 34 G4 8) 42 G5 8 1) ni := by rw [ek 1 (by decide)]; exact ti3
    have fr5 : FrC h h5 := ((f2.trans f3).trans (f4.frC C3.1)).trans (f5.frC C4.1 C4.2.2.2.lcl)
    iterate 2 refine fst1_ok X (dk rfl) rfl ?_
    refine br_ok X (dk rfl) rfl (show ((69 : Nat) : Int) + 44 = ((113 : Nat) : Int) from rfl) (fun q => absurd rfl q) (fun _ => ?_)
    refine fst1_ok X (dk rfl) rfl ?_
    refine br_ok X (dk rfl) rfl (show ((73 : Nat) : Int) + 12 = ((85 : Nat) : Int) from rfl) (fun q => absurd q bI_t) (fun _ => ?_)
    iterate 3 refine fst1_ok X (dk rfl) rfl ?_
    refine callV_ok (ci := 8) (T := TX6) (N := 14) (av := [.ref (B 0), .ref (B 1)]) (r := []) X E (s6_ansSound h5 Y C5 (j := 0) (by decide) tj6 wj lj (i := 1) (by decide) ti6 wi li m1 m2 (fun _ => by rw [← exF_used E1 wj.2, ← exF_used E1 wi.2]; exact u1.2)) lkX6_areAnswersSound mlX6_257 lmX6_areAnswersSound lpX6_areAnswersSound ⟨Nat.le_of_ble_eq_true rfl, Nat.le_of_ble_eq_true rfl⟩ ⟨Nat.le_of_ble_eq_true rfl, Nat.le_of_ble_eq_true rfl⟩ rfl C5.2.1 (Nat.le_of_ble_eq_true rfl) (dk rfl) ?_
    rintro _ h6 ⟨rfl, F6, C6, eF6, f6b⟩
    refine br_ok X (dk rfl) rfl (show ((82 : Nat) : Int) + 31 = ((113 : Nat) : Int) from rfl) (fun q => absurd q bI_t) (fun _ => ?_)
    exact rest h6 F6 C6 (fun q hq => (eF6 q hq).trans (ek q hq)) (fr5.trans f6b) _ rfl
end Q32
end Uf32q7
section Uf34q8
/-! what digest tells: the class exactly (by hand) -/
def wlF (z : Int64) (x : List Nat) : Int64 := x.foldl (fun z y => z * 31 + (nI y).toInt64) z
def waF (rows : List (List Nat)) : Nat → Nat → Int64 → Int64
  | 0, _, z => z
  | d + 1, j, z => waF rows d (j + 1) (if rows[j]? = some [j] then z else wlF ((z * 31 + (nI j).toInt64) * 31 + (nI (rows.getD j []).length).toInt64) (rows.getD j []))
def waG (z : Int64) (rows : List (List Nat)) : Int64 := waF rows 8 0 (z * 31 + (nI (movedN rows 8)).toInt64)
def wsF (z : Int64) (t : List Nat) : Int64 := wlF ((((z * 31 + (nI t.length).toInt64) * 31 + (nI (lvM t 0 t.length)).toInt64) * 31 + (nI (shN t)).toInt64) * 31 + (nI (namesN t)).toInt64) t
def dgS (sl : List (List Nat)) : Nat → Nat → Int64 → Int64
  | 0, _, z => z
  | d + 1, i, z => dgS sl d (i + 1) (wsF z (sl.getD i []))
def dgA (an : List (List (List Nat))) : Nat → Nat → Int64 → Int64
  | 0, _, z => z
  | d + 1, i, z => dgA an d (i + 1) (waG z (an.getD i []))
def dgH (kn : Int32) (st : ST) : Nat → Nat → Int64 → Int64
  | 0, _, z => z
  | d + 1, i, z => dgH kn st d (i + 1) (z * 31 + (hsN kn i st).toInt64)
def dgE (kn : Int32) (st : ST) (z : Int64) : Int64 := dgH kn st 5 0 ((z * 31 + (nI (stN (st.1.getD 0 []) (st.1.getD 1 [])).1).toInt64) * 31 + (nI (stN (st.1.getD 0 []) (st.1.getD 1 [])).2).toInt64) * 31 + 1
def aDigest (kn : Int32) (st : ST) : Int64 := dgE kn st (dgA st.2.1 3 0 (dgS st.1 6 0 8024))
theorem wl_drop {ns : List Nat} {k y : Nat} (hy : ns[k]? = some y) : ns.drop k = y :: ns.drop (k + 1) := by
  obtain ⟨h, e⟩ := List.getElem?_eq_some_iff.mp hy
  rw [List.drop_eq_getElem_cons h, e]
theorem nI_ngt {i K : Nat} (h : i ≤ K) (hK : K < 2 ^ 31) : ¬ nI K < nI i := Int32.not_lt.mpr ((nI_leI (by omega) hK).mpr h)
theorem StC.at8 {B Q P : Nat → Nat} {ox : Nat} {kn : Int32} {h : AH} {st : ST} (C0 : StC B Q P ox kn h st) : ∃ fs : List Value, h ox = some (8, fs) := by
  obtain ⟨F, C, -, -⟩ := C0
  exact ⟨_, C.2.1⟩
theorem AX_no {res : RS} {st : ST} {v : Int32} {h : AH} (hr : res = ((0, v), st)) : ∀ (E : String) (h' : AH), AX res st h E h' → False := by
  rintro E h' ⟨⟨z, -⟩ | ⟨z, -⟩, -⟩ <;> (rw [hr] at z; first | exact absurd (show (0 : Nat) = 1 from z) (by decide) | exact absurd (show (0 : Nat) = 2 from z) (by decide))
theorem AXh_no {res : RS} {st : ST} {v : Int32} {h : AH} (hr : res = ((0, v), st)) : ∀ (E : String) (h' : AH), AXh res st h E h' → False := by
  rintro E h' ⟨⟨z, -⟩, -⟩
  rw [hr] at z
  exact absurd (show (0 : Nat) = 1 from z) (by decide)
section Q34a
variable {p : Program} {la : Launch} {e : Env} {R : Room} {s : State} {m : MethodId} {args : Array Value} {below : List Frame} {meth : Method} {c : Code} {Q : State → Prop}
variable {D : va_G} {cA : Nat → ClassId} {B0 pa nL : Nat} {cc : ByteArray} {own : String} {pc k n : Nat} {l : List (Nat × Value)} {r : List Value} {h : AH}
/-- a question that throws nothing here -/
theorem askQ_ok (X : CX p s m args c D cA B0 nL cc own) (E : EN D cA B0 pa s) {y : MethodName} {bytes : ByteArray} {maxL idx b : Nat} {ret : Option FieldType} {rm : Room} {av fs : List Value} {BB QQ PP : Nat → Nat} {ox : Nat} {kn : Int32} {res : RS} {st : ST} {v : Int32} {px' : String → AH → Prop}
    (hM : CTX la D cA B0 pa y bytes maxL ret rm (.ref b :: av) h (AP BB QQ PP ox kn res h) px') (er : res = ((0, v), st)) (hpx : ∀ (E' : String) (h' : AH), px' E' h' → False) (hL : LK y bytes maxL av.length ret) (hl : Cond.methodLink own idx y ∈ WT) (hi : Cond.instanceMethod y ∈ WT) (hse : Cond.selects y.cls y y ∈ WT) (hR : rm.frames + 1 ≤ R.frames ∧ 8 + (maxL + 11) + rm.locals ≤ R.locals) (hf : k + rm.cells ≤ R.cells ∧ n + rm.slots ≤ R.slots)
    (hc : RX6 = y.cls) (hb : h b = some (8, fs)) (hW : (r.map fun v => v.category).sum ≤ 8) (hd : decode cc pc = .ok (.invokevirtual idx, 3))
    (kk : ∀ h' : AH, StC BB QQ PP ox kn h' st → FrC h h' → WS p la e R s m args below meth c Q D cA B0 nL (pc + 3) l (.int v :: r) h' (k + rm.cells) (n + rm.slots)) : WS p la e R s m args below meth c Q D cA B0 nL pc l (av.reverse ++ .ref b :: r) h k n := by
  refine callVH_ok (ci := 8) (T := TX6) (N := 14) X E hM hL hl hi hse hR hf (by rw [← hc]; rfl) hb hW hd ?_ (fun E' h' z => (hpx E' h' z).elim)
  rintro w h' ⟨-, rfl, S1, f1⟩
  subst er
  exact kk h' S1 f1
end Q34a
section Q34
variable {la : Launch} {D : va_G} {cA : Nat → ClassId} {B0 pa : Nat} {B Q P : Nat → Nat} {ox : Nat} {kn d r : Int32} {F : Nat → TC}
theorem s0_ofN (h : AH) {o f : Nat} (O : AnO B h o f) {n : Nat} (hn : n < 8) : CT la D cA B0 pa yX0_of cX0_of 2 (some (.object "Branchmatch$Term")) (rmD 1 0 0) [.ref o, vI n] h (RP (.ref (B (f + n))) h) := by
  refine CT_of (by decide +kernel) (Nat.le_of_ble_eq_true rfl) ?_
  intro p e s m args below meth c X E hr hlk hnm
  have dk : ∀ {pc : Nat} {q : Instr × Nat}, lkd DX0_of pc = some q → decode cX0_of pc = .ok q := lkd_ok DX0_of_ok
  obtain ⟨of, arr, o1, o2⟩ := id O
  refine fst1_ok X (dk rfl) rfl ?_
  refine callNR_ok (av := [vI n]) (r := []) X E (c6_isName _ (TygN h) (nI n)) lkX6_isName mnX0_23 lsX6_isName ⟨Nat.le_of_ble_eq_true rfl, Nat.le_of_ble_eq_true rfl⟩ ⟨Nat.le_of_ble_eq_true rfl, Nat.le_of_ble_eq_true rfl⟩ (Nat.le_of_ble_eq_true rfl) (dk rfl) ?_
  rintro _ ⟨b1, rfl, hb2, hn3⟩
  refine br_ok X (dk rfl) rfl (show ((4 : Nat) : Int) + 13 = ((17 : Nat) : Int) from rfl) (fun c4 => ?_) (fun c4 => ?_)
  · refine fst1_ok X (dk rfl) rfl ?_
    refine getf_ok X flX0_11 (dk rfl) o1 rfl ?_
    refine fst1_ok X (dk rfl) rfl ?_
    refine aldr_ok X (Or.inl rfl) (dk rfl) o2 (by omega) (rgB_get B f (k := n) hn) ?_
    exact reta_ok X hr hlk (Or.inl ⟨_, rfl⟩) (Or.inr ⟨_, rfl⟩) (dk rfl) ⟨rfl, rfl⟩ (Nat.le_of_ble_eq_true rfl) (Nat.le_of_ble_eq_true rfl)
  · have c5 : b1 = false := by
      cases b1 with
      | false => rfl
      | true => exact absurd bI_t c4
    exact absurd ⟨n, hn, rfl⟩ (hn3 c5)
set_option maxHeartbeats 8000000 in
theorem s6_withLetters (h : AH) (S : TS B Q h F) (x0 : Int64) {i : Nat} (hi : i < 52) {ns : List Nat} (hN : TN (F i) ns) (ln : ns.length ≤ 16) : CT la D cA B0 pa yX6_withLetters cX6_withLetters 6 (some .long) (rmD 1 0 0) [.long x0, .ref (B i)] h (RP (.long (wlF x0 ns)) h) := by
  refine CT_of (by decide +kernel) (Nat.le_of_ble_eq_true rfl) ?_
  intro p e s m args below meth c X E hr hlk hnm
  have dk : ∀ {pc : Nat} {q : Instr × Nat}, lkd DX6_withLetters pc = some q → decode cX6_withLetters pc = .ok q := lkd_ok DX6_withLetters_ok
  have L5 : ∀ k : Nat, k ≤ ns.length → ∀ z : Int64, wlF z (ns.drop k) = wlF x0 ns → ∀ l : List (Nat × Value), lsel l [5, 3, 2] = [(5, vI k), (3, .long z), (2, .ref (B i))] → WR p la e (rmD 1 0 0) s m args below meth c D cA B0 6 (RP (.long (wlF x0 ns)) h) 5 l [] h 0 0 := by
    refine loopN (fun k hk ih => ?_)
    intro z hz l hl
    refine WS.sel [5, 3, 2] hl ?_
    iterate 2 refine fst1_ok X (dk rfl) rfl ?_
    refine callVR_ok (ci := 7) (T := TX5) (N := 3) (av := []) (r := [_]) X E (s5_length h S hi) lkX5_length mlX6_76 lmX5_length lpX5_length ⟨Nat.le_of_ble_eq_true rfl, Nat.le_of_ble_eq_true rfl⟩ ⟨Nat.le_of_ble_eq_true rfl, Nat.le_of_ble_eq_true rfl⟩ rfl ⟨_, (S i hi).2.1⟩ (Nat.le_of_ble_eq_true rfl) (dk rfl) ?_
    rintro _ rfl
    rw [hN.len]
    by_cases q : k < ns.length
    · refine br_ok X (dk rfl) rfl (show ((11 : Nat) : Int) + 23 = ((34 : Nat) : Int) from rfl) (fun c1 => absurd c1 (nI_ge (a := k) (b := ns.length) (by omega) (by omega))) (fun _ => ?_)
      obtain ⟨y, hy⟩ : ∃ y, ns[k]? = some y := ⟨_, List.getElem?_eq_getElem q⟩
      have ed : wlF z (ns.drop k) = wlF (z * 31 + (nI y).toInt64) (ns.drop (k + 1)) := by rw [wl_drop hy]; rfl
      refine fst1_ok X (dk rfl) rfl ?_
      refine ldc2_ok X csX6_271 (dk rfl) ?_
      iterate 3 refine fst1_ok X (dk rfl) rfl ?_
      refine callVR_ok (ci := 7) (T := TX5) (N := 3) (av := [vI k]) (r := [_]) X E (s5_letterAt h S hi (nI k)) lkX5_letterAt mlX6_132 lmX5_letterAt lpX5_letterAt ⟨Nat.le_of_ble_eq_true rfl, Nat.le_of_ble_eq_true rfl⟩ ⟨Nat.le_of_ble_eq_true rfl, Nat.le_of_ble_eq_true rfl⟩ rfl ⟨_, (S i hi).2.1⟩ (Nat.le_of_ble_eq_true rfl) (dk rfl) ?_
      rintro _ rfl
      rw [hN.lt hy (by omega)]
      iterate 4 refine fst1_ok X (dk rfl) rfl ?_
      refine br_ok X (dk rfl) rfl (show ((31 : Nat) : Int) + (-26) = ((5 : Nat) : Int) from rfl) (fun _ => ?_) (fun q => absurd trivial q)
      exact ih q (z * 31 + (nI y).toInt64) (ed.symm.trans hz) _ (by rw [← vI_succ k]; rfl)
    · obtain rfl : k = ns.length := by omega
      refine br_ok X (dk rfl) rfl (show ((11 : Nat) : Int) + 23 = ((34 : Nat) : Int) from rfl) (fun _ => ?_) (fun c1 => absurd (Int32.le_refl _) c1)
      rw [List.drop_length] at hz
      have hz' : z = wlF x0 ns := hz
      rw [hz']
      refine fst1_ok X (dk rfl) rfl ?_
      exact retl_ok X hr hlk (dk rfl) ⟨rfl, rfl⟩ (Nat.le_of_ble_eq_true rfl) (Nat.le_of_ble_eq_true rfl)
  iterate 4 refine fst1_ok X (dk rfl) rfl ?_
  exact L5 0 (Nat.zero_le _) x0 rfl _ rfl
set_option maxHeartbeats 16000000 in
theorem s6_withAnswer (h : AH) (S : TS B Q h F) (x0 : Int64) {o f : Nat} (O : AnO B h o f) {rows : List (List Nat)} (H : RWX F f rows) (hf : f + 8 ≤ 52) : CT la D cA B0 pa yX6_withAnswer cX6_withAnswer 6 (some .long) (rmD 3 0 0) [.long x0, .ref o] h (RP (.long (waG x0 rows)) h) := by
  refine CT_of (by decide +kernel) (Nat.le_of_ble_eq_true rfl) ?_
  intro p e s m args below meth c X E hr hlk hnm
  have dk : ∀ {pc : Nat} {q : Instr × Nat}, lkd DX6_withAnswer pc = some q → decode cX6_withAnswer pc = .ok q := lkd_ok DX6_withAnswer_ok
  obtain ⟨of, arr, o1, o2⟩ := id O
  have L15 : ∀ j : Nat, j ≤ 8 → ∀ z : Int64, waF rows (8 - j) j z = waG x0 rows → ∀ l : List (Nat × Value), lsel l [5, 3, 2] = [(5, vI j), (3, .long z), (2, .ref o)] → WR p la e (rmD 3 0 0) s m args below meth c D cA B0 6 (RP (.long (waG x0 rows)) h) 15 l [] h 0 0 := by
    refine loopN (fun j hj ih => ?_)
    intro z hz l hl
    refine WS.sel [5, 3, 2] hl ?_
    iterate 2 refine fst1_ok X (dk rfl) rfl ?_
    by_cases q : j < 8
    · obtain ⟨n1, a1, a2, a3, a4⟩ := H.2 j q
      have t1 : TN (F (f + j)) n1 := ⟨by rw [a2], a3.2⟩
      rw [show 8 - j = (8 - (j + 1)) + 1 by omega] at hz
      have hz2 : waF rows (8 - (j + 1)) (j + 1) (if rows[j]? = some [j] then z else wlF ((z * 31 + (nI j).toInt64) * 31 + (nI (rows.getD j []).length).toInt64) (rows.getD j [])) = waG x0 rows := hz
      refine br_ok X (dk rfl) rfl (show ((19 : Nat) : Int) + 56 = ((75 : Nat) : Int) from rfl) (fun c1 => absurd c1 (nI_ge (a := j) (b := 8) (by omega) (by omega))) (fun _ => ?_)
      iterate 2 refine fst1_ok X (dk rfl) rfl ?_
      refine callVR_ok (ci := 2) (T := TX0) (N := 1) (av := [vI j]) (r := []) X E (s0_moves h S O q t1) lkX0_moves mlX6_316 lmX0_moves lpX0_moves ⟨Nat.le_of_ble_eq_true rfl, Nat.le_of_ble_eq_true rfl⟩ ⟨Nat.le_of_ble_eq_true rfl, Nat.le_of_ble_eq_true rfl⟩ rfl ⟨_, o1⟩ (Nat.le_of_ble_eq_true rfl) (dk rfl) ?_
      rintro _ rfl
      by_cases e1 : n1 = [j]
      · rw [if_pos (by rw [a1, e1])] at hz2
        rw [decide_eq_false (fun z => z e1)]
        refine br_ok X (dk rfl) rfl (show ((28 : Nat) : Int) + 41 = ((69 : Nat) : Int) from rfl) (fun _ => ?_) (fun q => absurd bI_f' q)
        refine fst1_ok X (dk rfl) rfl ?_
        refine br_ok X (dk rfl) rfl (show ((72 : Nat) : Int) + (-57) = ((15 : Nat) : Int) from rfl) (fun _ => ?_) (fun q => absurd trivial q)
        exact ih q z hz2 _ (by rw [← vI_succ j]; rfl)
      · rw [if_neg (fun z => e1 (by rw [a1] at z; exact Option.some.inj z)), getD_of a1] at hz2
        rw [decide_eq_true e1]
        refine br_ok X (dk rfl) rfl (show ((28 : Nat) : Int) + 41 = ((69 : Nat) : Int) from rfl) (fun q => absurd q bI_t) (fun _ => ?_)
        refine fst1_ok X (dk rfl) rfl ?_
        refine ldc2_ok X csX6_271 (dk rfl) ?_
        iterate 6 refine fst1_ok X (dk rfl) rfl ?_
        refine ldc2_ok X csX6_271 (dk rfl) ?_
        iterate 3 refine fst1_ok X (dk rfl) rfl ?_
        refine callVR_ok (ci := 2) (T := TX0) (N := 1) (av := [vI j]) (r := [_]) X E (s0_ofN h O q) lkX0_of mlX6_169 lmX0_of lpX0_of ⟨Nat.le_of_ble_eq_true rfl, Nat.le_of_ble_eq_true rfl⟩ ⟨Nat.le_of_ble_eq_true rfl, Nat.le_of_ble_eq_true rfl⟩ rfl ⟨_, o1⟩ (Nat.le_of_ble_eq_true rfl) (dk rfl) ?_
        rintro _ rfl
        refine callVR_ok (ci := 7) (T := TX5) (N := 3) (av := []) (r := [_]) X E (s5_length h S (i := f + j) (by omega)) lkX5_length mlX6_76 lmX5_length lpX5_length ⟨Nat.le_of_ble_eq_true rfl, Nat.le_of_ble_eq_true rfl⟩ ⟨Nat.le_of_ble_eq_true rfl, Nat.le_of_ble_eq_true rfl⟩ rfl ⟨_, (S (f + j) (by omega)).2.1⟩ (Nat.le_of_ble_eq_true rfl) (dk rfl) ?_
        rintro _ rfl
        rw [t1.len]
        iterate 6 refine fst1_ok X (dk rfl) rfl ?_
        refine callVR_ok (ci := 2) (T := TX0) (N := 1) (av := [vI j]) (r := [_]) X E (s0_ofN h O q) lkX0_of mlX6_169 lmX0_of lpX0_of ⟨Nat.le_of_ble_eq_true rfl, Nat.le_of_ble_eq_true rfl⟩ ⟨Nat.le_of_ble_eq_true rfl, Nat.le_of_ble_eq_true rfl⟩ rfl ⟨_, o1⟩ (Nat.le_of_ble_eq_true rfl) (dk rfl) ?_
        rintro _ rfl
        refine callSR_ok (av := [.long ((z * 31 + (nI j).toInt64) * 31 + (nI n1.length).toInt64), .ref (B (f + j))]) (r := []) X E (s6_withLetters h S _ (i := f + j) (by omega) t1 a4) lkX6_withLetters mlX6_285 lsX6_withLetters ⟨Nat.le_of_ble_eq_true rfl, Nat.le_of_ble_eq_true rfl⟩ ⟨Nat.le_of_ble_eq_true rfl, Nat.le_of_ble_eq_true rfl⟩ (Nat.le_of_ble_eq_true rfl) (dk rfl) ?_
        rintro _ rfl
        iterate 2 refine fst1_ok X (dk rfl) rfl ?_
        refine br_ok X (dk rfl) rfl (show ((72 : Nat) : Int) + (-57) = ((15 : Nat) : Int) from rfl) (fun _ => ?_) (fun q => absurd trivial q)
        exact ih q _ hz2 _ (by rw [← vI_succ j]; rfl)
    · obtain rfl : j = 8 := by omega
      have hz' : z = waG x0 rows := hz
      rw [hz']
      refine br_ok X (dk rfl) rfl (show ((19 : Nat) : Int) + 56 = ((75 : Nat) : Int) from rfl) (fun _ => ?_) (fun c1 => absurd (by decide) c1)
      refine fst1_ok X (dk rfl) rfl ?_
      exact retl_ok X hr hlk (dk rfl) ⟨rfl, rfl⟩ (Nat.le_of_ble_eq_true rfl) (Nat.le_of_ble_eq_true rfl)
  refine fst1_ok X (dk rfl) rfl ?_
  refine ldc2_ok X csX6_271 (dk rfl) ?_
  iterate 2 refine fst1_ok X (dk rfl) rfl ?_
  refine callVR_ok (ci := 2) (T := TX0) (N := 1) (av := []) (r := [_]) X E (s0_movedNames h S O H) lkX0_movedNames mlX6_219 lmX0_movedNames lpX0_movedNames ⟨Nat.le_of_ble_eq_true rfl, Nat.le_of_ble_eq_true rfl⟩ ⟨Nat.le_of_ble_eq_true rfl, Nat.le_of_ble_eq_true rfl⟩ rfl ⟨_, o1⟩ (Nat.le_of_ble_eq_true rfl) (dk rfl) ?_
  rintro _ rfl
  iterate 5 refine fst1_ok X (dk rfl) rfl ?_
  exact L15 0 (by omega) (x0 * 31 + (nI (movedN rows 8)).toInt64) rfl _ rfl
def DGP (B Q P : Nat → Nat) (ox : Nat) (kn : Int32) (st : ST) (h : AH) (v : Option Value) (h' : AH) : Prop := v = some (.long (aDigest kn st)) ∧ StC B Q P ox kn h' st ∧ FrC h h'
set_option maxHeartbeats 64000000 in
theorem s6_digest (h : AH) (hla : la.stackTraces = false) (Y : LYO B Q) {st : ST} (C0 : StC B Q P ox kn h st) : CT la D cA B0 pa yX6_digest cX6_digest 4 (some .long) (rmD 9 40 240) [.ref ox] h (DGP B Q P ox kn st h) := by
  refine CT_of (by decide +kernel) (Nat.le_of_ble_eq_true rfl) ?_
  intro p e s m args below meth c X E hr hlk hnm
  have dk : ∀ {pc : Nat} {q : Instr × Nat}, lkd DX6_digest pc = some q → decode cX6_digest pc = .ok q := lkd_ok DX6_digest_ok
  have L135 : ∀ j : Nat, j ≤ 5 → ∀ (z : Int64) (h2 : AH), dgH kn st (5 - j) j z * 31 + 1 = aDigest kn st → StC B Q P ox kn h2 st → FrC h h2 → ∀ l : List (Nat × Value), lsel l [3, 1, 0] = [(3, vI j), (1, .long z), (0, .ref ox)] → WR p la e (rmD 9 40 240) s m args below meth c D cA B0 4 (DGP B Q P ox kn st h) 135 l [] h2 (28 + j) (168 + 6 * j) := by
    refine loopN (fun j hj ih => ?_)
    intro z h2 hz C2 f2 l hl
    refine WS.sel [3, 1, 0] hl ?_
    iterate 2 refine fst1_ok X (dk rfl) rfl ?_
    by_cases q : j < 5
    · rw [show 5 - j = (5 - (j + 1)) + 1 by omega] at hz
      refine br_ok X (dk rfl) rfl (show ((137 : Nat) : Int) + 22 = ((159 : Nat) : Int) from rfl) (fun c1 => absurd c1 (nI_ngt (i := j) (K := 4) (by omega) (by omega))) (fun _ => ?_)
      refine fst1_ok X (dk rfl) rfl ?_
      refine ldc2_ok X csX6_271 (dk rfl) ?_
      iterate 3 refine fst1_ok X (dk rfl) rfl ?_
      have ea : aHouse kn (nI j) st = ((0, hsN kn j st), st) := by
        unfold aHouse
        rw [if_pos (okI_t q (by decide)), xI_n (by omega)]
      refine askQ_ok (av := [vI j]) (r := [_]) X E (s6_house h2 hla Y C2 (nI j)) ea (AXh_no ea) lkX6_house mlX6_300 lmX6_house lpX6_house ⟨Nat.le_of_ble_eq_true rfl, Nat.le_of_ble_eq_true rfl⟩ ⟨by show 28 + j + 1 ≤ 40; omega, by show 168 + 6 * j + 6 ≤ 240; omega⟩ rfl C2.at8.choose_spec (Nat.le_of_ble_eq_true rfl) (dk rfl) (fun h3 C3 f3 => ?_)
      iterate 4 refine fst1_ok X (dk rfl) rfl ?_
      refine br_ok X (dk rfl) rfl (show ((156 : Nat) : Int) + (-21) = ((135 : Nat) : Int) from rfl) (fun _ => ?_) (fun q => absurd trivial q)
      refine WS.widen (k' := 28 + (j + 1)) (n' := 168 + 6 * (j + 1)) (by show 28 + j + 1 ≤ _; omega) (by show 168 + 6 * j + 6 ≤ _; omega) ?_
      exact ih q (z * 31 + (hsN kn j st).toInt64) h3 hz C3 (f2.trans f3) _ (by rw [← vI_succ j]; rfl)
    · obtain rfl : j = 5 := by omega
      refine br_ok X (dk rfl) rfl (show ((137 : Nat) : Int) + 22 = ((159 : Nat) : Int) from rfl) (fun _ => ?_) (fun c1 => absurd (by decide) c1)
      refine fst1_ok X (dk rfl) rfl ?_
      refine ldc2_ok X csX6_271 (dk rfl) ?_
      iterate 2 refine fst1_ok X (dk rfl) rfl ?_
      refine callV_ok (ci := 8) (T := TX6) (N := 14) (av := []) (r := [_]) X E (s6_isSound h2 Y C2) lkX6_isSound mlX6_303 lmX6_isSound lpX6_isSound ⟨Nat.le_of_ble_eq_true rfl, Nat.le_of_ble_eq_true rfl⟩ ⟨Nat.le_of_ble_eq_true rfl, Nat.le_of_ble_eq_true rfl⟩ rfl C2.at8.choose_spec (Nat.le_of_ble_eq_true rfl) (dk rfl) ?_
      rintro _ h3 ⟨rfl, C3, f3⟩
      refine br_ok X (dk rfl) rfl (show ((168 : Nat) : Int) + 7 = ((175 : Nat) : Int) from rfl) (fun q => absurd q bI_t) (fun _ => ?_)
      refine fst1_ok X (dk rfl) rfl ?_
      refine br_ok X (dk rfl) rfl (show ((172 : Nat) : Int) + 4 = ((176 : Nat) : Int) from rfl) (fun _ => ?_) (fun q => absurd trivial q)
      iterate 2 refine fst1_ok X (dk rfl) rfl ?_
      exact retl_ok X hr hlk (dk rfl) ⟨congrArg (fun w => some (Value.long w)) ((show z * 31 + (Int32.ofInt 1).toInt64 = z * 31 + 1 by rw [show (Int32.ofInt 1).toInt64 = 1 by decide +kernel]).trans hz), C3, f2.trans f3⟩ (Nat.le_of_ble_eq_true rfl) (Nat.le_of_ble_eq_true rfl)
  have L83 : ∀ j : Nat, j ≤ 3 → ∀ (z : Int64) (h2 : AH), dgE kn st (dgA st.2.1 (3 - j) j z) = aDigest kn st → StC B Q P ox kn h2 st → FrC h h2 → ∀ l : List (Nat × Value), lsel l [3, 1, 0] = [(3, vI j), (1, .long z), (0, .ref ox)] → WR p la e (rmD 9 40 240) s m args below meth c D cA B0 4 (DGP B Q P ox kn st h) 83 l [] h2 24 144 := by
    refine loopN (fun j hj ih => ?_)
    intro z h2 hz C2 f2 l hl
    refine WS.sel [3, 1, 0] hl ?_
    iterate 2 refine fst1_ok X (dk rfl) rfl ?_
    obtain ⟨F2, D2, H2, -⟩ := id C2
    by_cases q : j < 3
    · rw [show 3 - j = (3 - (j + 1)) + 1 by omega] at hz
      obtain ⟨rows, sk, rk⟩ := H2.2 j q
      have hz2 : dgE kn st (dgA st.2.1 (3 - (j + 1)) (j + 1) (waG z (st.2.1.getD j []))) = aDigest kn st := hz
      rw [getD_of sk] at hz2
      refine br_ok X (dk rfl) rfl (show ((85 : Nat) : Int) + 20 = ((105 : Nat) : Int) from rfl) (fun c1 => absurd c1 (nI_ge (a := j) (b := 3) (by omega) (by omega))) (fun _ => ?_)
      iterate 2 refine fst1_ok X (dk rfl) rfl ?_
      refine getf_ok X flX6_17 (dk rfl) D2.2.1 rfl ?_
      refine fst1_ok X (dk rfl) rfl ?_
      refine aldr_ok X (Or.inr rfl) (dk rfl) D2.2.2.1.2.1 (by omega) (rgB_get P 7 (n := 3) (k := j) q) ?_
      refine callSR_ok (av := [.long z, .ref (P (7 + j))]) (r := []) X E (s6_withAnswer h2 D2.1 z (D2.2.2.1.2.2.1 j q) rk (by omega)) lkX6_withAnswer mlX6_289 lsX6_withAnswer ⟨Nat.le_of_ble_eq_true rfl, Nat.le_of_ble_eq_true rfl⟩ ⟨Nat.le_of_ble_eq_true rfl, Nat.le_of_ble_eq_true rfl⟩ (Nat.le_of_ble_eq_true rfl) (dk rfl) ?_
      rintro _ rfl
      iterate 2 refine fst1_ok X (dk rfl) rfl ?_
      refine br_ok X (dk rfl) rfl (show ((102 : Nat) : Int) + (-19) = ((83 : Nat) : Int) from rfl) (fun _ => ?_) (fun q => absurd trivial q)
      exact ih q _ h2 hz2 C2 f2 _ (by rw [← vI_succ j]; rfl)
    · obtain rfl : j = 3 := by omega
      refine br_ok X (dk rfl) rfl (show ((85 : Nat) : Int) + 20 = ((105 : Nat) : Int) from rfl) (fun _ => ?_) (fun c1 => absurd (by decide) c1)
      refine fst1_ok X (dk rfl) rfl ?_
      refine ldc2_ok X csX6_271 (dk rfl) ?_
      iterate 4 refine fst1_ok X (dk rfl) rfl ?_
      have e1 : aSteps (nI 0) (nI 1) st = ((0, nI (stN (st.1.getD 0 []) (st.1.getD 1 [])).1), st) := by
        unfold aSteps
        rw [if_pos (okI_t (j := 0) (by decide) (by decide)), if_pos (okI_t (j := 1) (by decide) (by decide)), xI_n (by omega), xI_n (by omega)]
      have e2 : aWhy (nI 0) (nI 1) st = ((0, nI (stN (st.1.getD 0 []) (st.1.getD 1 [])).2), st) := by
        unfold aWhy
        rw [if_pos (okI_t (j := 0) (by decide) (by decide)), if_pos (okI_t (j := 1) (by decide) (by decide)), xI_n (by omega), xI_n (by omega)]
      refine askQ_ok (av := [vI 0, vI 1]) (r := [_]) X E (s6_steps h2 hla Y C2 (nI 0) (nI 1)) e1 (AX_no e1) lkX6_steps mlX6_293 lmX6_steps lpX6_steps ⟨Nat.le_of_ble_eq_true rfl, Nat.le_of_ble_eq_true rfl⟩ ⟨Nat.le_of_ble_eq_true rfl, Nat.le_of_ble_eq_true rfl⟩ rfl C2.at8.choose_spec (Nat.le_of_ble_eq_true rfl) (dk rfl) (fun h3 C3 f3 => ?_)
      iterate 4 refine fst1_ok X (dk rfl) rfl ?_
      refine ldc2_ok X csX6_271 (dk rfl) ?_
      iterate 4 refine fst1_ok X (dk rfl) rfl ?_
      refine askQ_ok (av := [vI 0, vI 1]) (r := [_]) X E (s6_why h3 hla Y C3 (nI 0) (nI 1)) e2 (AX_no e2) lkX6_why mlX6_297 lmX6_why lpX6_why ⟨Nat.le_of_ble_eq_true rfl, Nat.le_of_ble_eq_true rfl⟩ ⟨Nat.le_of_ble_eq_true rfl, Nat.le_of_ble_eq_true rfl⟩ rfl C3.at8.choose_spec (Nat.le_of_ble_eq_true rfl) (dk rfl) (fun h4 C4 f4 => ?_)
      iterate 5 refine fst1_ok X (dk rfl) rfl ?_
      exact L135 0 (by omega) ((z * 31 + (nI (stN (st.1.getD 0 []) (st.1.getD 1 [])).1).toInt64) * 31 + (nI (stN (st.1.getD 0 []) (st.1.getD 1 [])).2).toInt64) h4 hz C4 ((f2.trans f3).trans f4) _ rfl
  have L6 : ∀ j : Nat, j ≤ 6 → ∀ (z : Int64) (h2 : AH), dgE kn st (dgA st.2.1 3 0 (dgS st.1 (6 - j) j z)) = aDigest kn st → StC B Q P ox kn h2 st → FrC h h2 → ∀ l : List (Nat × Value), lsel l [3, 1, 0] = [(3, vI j), (1, .long z), (0, .ref ox)] → WR p la e (rmD 9 40 240) s m args below meth c D cA B0 4 (DGP B Q P ox kn st h) 6 l [] h2 (4 * j) (24 * j) := by
    refine loopN (fun j hj ih => ?_)
    intro z h2 hz C2 f2 l hl
    refine WS.sel [3, 1, 0] hl ?_
    iterate 2 refine fst1_ok X (dk rfl) rfl ?_
    by_cases q : j < 6
    · rw [show 6 - j = (6 - (j + 1)) + 1 by omega] at hz
      obtain ⟨F2, D2, H2, O⟩ := id C2
      obtain ⟨nj, sj, -, -, -, -⟩ := H2.slot O q
      have hz2 : dgE kn st (dgA st.2.1 3 0 (dgS st.1 (6 - (j + 1)) (j + 1) (wsF z (st.1.getD j [])))) = aDigest kn st := hz
      rw [getD_of sj] at hz2
      refine br_ok X (dk rfl) rfl (show ((9 : Nat) : Int) + 72 = ((81 : Nat) : Int) from rfl) (fun c1 => absurd c1 (nI_ge (a := j) (b := 6) (by omega) (by omega))) (fun _ => ?_)
      have e1 : aSize (nI j) st = ((0, nI nj.length), st) := by
        unfold aSize
        rw [if_pos (okI_t q (by decide)), xI_n (by omega), getD_of sj]
      have e2 : aDepth (nI j) st = ((0, nI (lvM nj 0 nj.length)), st) := by
        unfold aDepth
        rw [if_pos (okI_t q (by decide)), xI_n (by omega), getD_of sj]
      have e3 : aShared (nI j) st = ((0, nI (shN nj)), st) := by
        unfold aShared
        rw [if_pos (okI_t q (by decide)), xI_n (by omega), getD_of sj]
      have e4 : aNames (nI j) st = ((0, nI (namesN nj)), st) := by
        unfold aNames
        rw [if_pos (okI_t q (by decide)), xI_n (by omega), getD_of sj]
      refine fst1_ok X (dk rfl) rfl ?_
      refine ldc2_ok X csX6_271 (dk rfl) ?_
      iterate 3 refine fst1_ok X (dk rfl) rfl ?_
      refine askQ_ok (av := [vI j]) (r := [_]) X E (s6_size h2 hla Y C2 (nI j)) e1 (AX_no e1) lkX6_size mlX6_273 lmX6_size lpX6_size ⟨Nat.le_of_ble_eq_true rfl, Nat.le_of_ble_eq_true rfl⟩ ⟨by show 4 * j + 1 ≤ 40; omega, by show 24 * j + 6 ≤ 240; omega⟩ rfl C2.at8.choose_spec (Nat.le_of_ble_eq_true rfl) (dk rfl) (fun h3 C3 f3 => ?_)
      iterate 4 refine fst1_ok X (dk rfl) rfl ?_
      refine ldc2_ok X csX6_271 (dk rfl) ?_
      iterate 3 refine fst1_ok X (dk rfl) rfl ?_
      refine askQ_ok (av := [vI j]) (r := [_]) X E (s6_depth h3 hla Y C3 (nI j)) e2 (AX_no e2) lkX6_depth mlX6_276 lmX6_depth lpX6_depth ⟨Nat.le_of_ble_eq_true rfl, Nat.le_of_ble_eq_true rfl⟩ ⟨by show 4 * j + 1 + 1 ≤ 40; omega, by show 24 * j + 6 + 6 ≤ 240; omega⟩ rfl C3.at8.choose_spec (Nat.le_of_ble_eq_true rfl) (dk rfl) (fun h4 C4 f4 => ?_)
      iterate 4 refine fst1_ok X (dk rfl) rfl ?_
      refine ldc2_ok X csX6_271 (dk rfl) ?_
      iterate 3 refine fst1_ok X (dk rfl) rfl ?_
      refine askQ_ok (av := [vI j]) (r := [_]) X E (s6_shared h4 hla Y C4 (nI j)) e3 (AX_no e3) lkX6_shared mlX6_279 lmX6_shared lpX6_shared ⟨Nat.le_of_ble_eq_true rfl, Nat.le_of_ble_eq_true rfl⟩ ⟨by show 4 * j + 1 + 1 + 1 ≤ 40; omega, by show 24 * j + 6 + 6 + 6 ≤ 240; omega⟩ rfl C4.at8.choose_spec (Nat.le_of_ble_eq_true rfl) (dk rfl) (fun h5 C5 f5 => ?_)
      iterate 4 refine fst1_ok X (dk rfl) rfl ?_
      refine ldc2_ok X csX6_271 (dk rfl) ?_
      iterate 3 refine fst1_ok X (dk rfl) rfl ?_
      refine askQ_ok (av := [vI j]) (r := [_]) X E (s6_names h5 hla Y C5 (nI j)) e4 (AX_no e4) lkX6_names mlX6_282 lmX6_names lpX6_names ⟨Nat.le_of_ble_eq_true rfl, Nat.le_of_ble_eq_true rfl⟩ ⟨by show 4 * j + 1 + 1 + 1 + 1 ≤ 40; omega, by show 24 * j + 6 + 6 + 6 + 6 ≤ 240; omega⟩ rfl C5.at8.choose_spec (Nat.le_of_ble_eq_true rfl) (dk rfl) (fun h6 C6 f6 => ?_)
      obtain ⟨F6, D6, H6, O6⟩ := id C6
      obtain ⟨nk, sk, -, tk, -, lk⟩ := H6.slot O6 q
      obtain rfl : nk = nj := Option.some.inj (sk.symm.trans sj)
      iterate 5 refine fst1_ok X (dk rfl) rfl ?_
      refine getf_ok X flX6_11 (dk rfl) D6.2.1 rfl ?_
      refine fst1_ok X (dk rfl) rfl ?_
      refine aldr_ok X (Or.inl rfl) (dk rfl) D6.2.2.1.1 (by omega) (rgB_get B 0 (n := 6) (k := j) q) ?_
      rw [Nat.zero_add]
      refine callSR_ok (av := [.long _, .ref (B j)]) (r := []) X E (s6_withLetters h6 D6.1 _ (i := j) (by omega) tk lk) lkX6_withLetters mlX6_285 lsX6_withLetters ⟨Nat.le_of_ble_eq_true rfl, Nat.le_of_ble_eq_true rfl⟩ ⟨by show 4 * j + 1 + 1 + 1 + 1 ≤ 40; omega, by show 24 * j + 6 + 6 + 6 + 6 ≤ 240; omega⟩ (Nat.le_of_ble_eq_true rfl) (dk rfl) ?_
      rintro _ rfl
      iterate 2 refine fst1_ok X (dk rfl) rfl ?_
      refine br_ok X (dk rfl) rfl (show ((78 : Nat) : Int) + (-72) = ((6 : Nat) : Int) from rfl) (fun _ => ?_) (fun q => absurd trivial q)
      refine WS.widen (k' := 4 * (j + 1)) (n' := 24 * (j + 1)) (by show 4 * j + 1 + 1 + 1 + 1 ≤ _; omega) (by show 24 * j + 6 + 6 + 6 + 6 ≤ _; omega) ?_
      exact ih q _ h6 hz2 C6 ((((f2.trans f3).trans f4).trans f5).trans f6) _ (by rw [← vI_succ j]; rfl)
    · obtain rfl : j = 6 := by omega
      refine br_ok X (dk rfl) rfl (show ((9 : Nat) : Int) + 72 = ((81 : Nat) : Int) from rfl) (fun _ => ?_) (fun c1 => absurd (by decide) c1)
      iterate 2 refine fst1_ok X (dk rfl) rfl ?_
      exact L83 0 (by omega) z h2 hz C2 f2 _ rfl
  refine ldc2_ok X csX6_269 (dk rfl) ?_
  iterate 3 refine fst1_ok X (dk rfl) rfl ?_
  exact L6 0 (by omega) 8024 h rfl C0 (FrC.rf h) _ rfl
end Q34
end Uf34q8
