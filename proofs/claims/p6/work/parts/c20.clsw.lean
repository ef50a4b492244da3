/-! classes: none within itself; what a class stands for -/
theorem AcK.in {X : List Nat} (hX : BX X) {rk : Nat → Nat} (h : ∀ p, p < X.length → ∀ j, j < ga X p → rk (ko X p j) < rk p) {p : Nat} (hp : p < X.length) : ∀ (n z : Nat), z < n → p < z → z < p + tl X p → rk z < rk p := by
  intro n
  induction n with
  | zero => intro z hz; omega
  | succ n ih =>
    intro z hz h1 h2
    obtain ⟨a, j, a1, a2, a3, a4, a5, rfl⟩ := par_ex hX _ p z (Nat.le_refl _) hp h1 h2
    have k1 := h a a4 j a5
    rcases Nat.eq_or_lt_of_le a1 with e | e
    · subst e
      exact k1
    · have := ih a (by omega) e a3
      omega
theorem frF_yes {of' pt : List Nat} {g : List Bool} {a : Nat} : ∀ (n j : Nat), (∀ i, j ≤ i → i < j + n → g.getD (pcl of' pt a i) false = true) → frF of' pt g a n j = true
  | 0, j, h => rfl
  | n + 1, j, h => by
    have h0 := h j (Nat.le_refl _) (by omega)
    unfold pcl at h0
    unfold frF
    rw [if_pos h0]
    exact frF_yes n (j + 1) (fun i h1 h2 => h i (by omega) (by omega))
theorem psF_fix {ts : List (List Nat)} {of' pt : List Nat} {g : List Bool} : ∀ K, (psF ts of' pt g K).2 = false → (psF ts of' pt g K).1 = g ∧ ∀ k, k < K → g.getD (of'.getD k 0) false = true ∨ freeF ts of' pt g (headF ts of' (of'.getD k 0)) = false
  | 0, h => ⟨rfl, fun k hk => by omega⟩
  | K + 1, h => by
    rw [psF_succ] at h ⊢
    by_cases c : (psF ts of' pt g K).1.getD (of'.getD K 0) false = true
    · rw [if_pos c] at h ⊢
      obtain ⟨i1, i2⟩ := psF_fix K h
      refine ⟨i1, fun k hk => ?_⟩
      rcases Nat.lt_or_ge k K with z | z
      · exact i2 k z
      · have : k = K := by omega
        subst this
        rw [i1] at c
        exact Or.inl c
    · rw [if_neg c] at h ⊢
      by_cases d : freeF ts of' pt (psF ts of' pt g K).1 (headF ts of' (of'.getD K 0)) = true
      · rw [if_pos d] at h
        cases h
      · rw [if_neg d] at h ⊢
        obtain ⟨i1, i2⟩ := psF_fix K h
        refine ⟨i1, fun k hk => ?_⟩
        rcases Nat.lt_or_ge k K with z | z
        · exact i2 k z
        · have : k = K := by omega
          subst this
          rw [i1] at d
          exact Or.inr (Bool.eq_false_iff.mpr d)
theorem rdF_fix {ts : List (List Nat)} {of' pt : List Nat} : ∀ (f : Nat) (g g' : List Bool), rdF ts of' pt f g = some g' → ∀ k, k < ts.length → g'.getD (of'.getD k 0) false = true ∨ freeF ts of' pt g' (headF ts of' (of'.getD k 0)) = false
  | 0, g, g', h => by cases h
  | f + 1, g, g', h => by
    unfold rdF at h
    by_cases c : (psF ts of' pt g ts.length).2 = true
    · rw [if_pos c] at h
      exact rdF_fix f _ g' h
    · rw [if_neg c] at h
      have c0 : (psF ts of' pt g ts.length).2 = false := Bool.eq_false_iff.mpr c
      obtain ⟨i1, i2⟩ := psF_fix ts.length c0
      rw [i1] at h
      cases h
      exact i2
theorem rnF_yes {of' : List Nat} {g : List Bool} : ∀ (n k : Nat), (∀ i, k ≤ i → i < k + n → g.getD (of'.getD i 0) false = true) → rnF of' g n k = false
  | 0, k, h => rfl
  | n + 1, k, h => by
    unfold rnF
    rw [if_pos (h k (Nat.le_refl _) (by omega))]
    exact rnF_yes n (k + 1) (fun i h1 h2 => h i (by omega) (by omega))
/-- the reference: nothing within itself -/
theorem round_ok {X : List Nat} {n1 : Nat} (hX : BX X) {pt of' : List Nat} (H : PtX (tsN X X.length) pt (tsN X X.length).length 0) (M : MnK X n1 (oK X of')) {g : List Bool} (hR : rdF (tsN X X.length) of' pt 33 (List.replicate (tsN X X.length).length false) = some g) (G : GI (tsN X X.length) of' pt g) : rnF of' g (tsN X X.length).length 0 = false ↔ AcK X (oK X of') := by
  have kid : ∀ {p u j : Nat}, p < X.length → u < X.length → oK X of' p = oK X of' u → 10 ≤ gl X p → 10 ≤ gl X u → j < ga X p → j < ga X u ∧ oK X of' (ko X p j) = pcl of' pt (nuX X u) j := fun {p u j} hp hu e g1 g2 hj => by
    obtain ⟨x1, x2⟩ := M.1.2.2 p u hp hu e g1 g2
    have hju : j < ga X u := by rw [← ga_eq x1]; exact hj
    refine ⟨hju, ?_⟩
    rw [x2 j hj]
    unfold pcl oK
    rw [nuX_pt hX H hu hju]
  constructor
  · intro hn
    obtain ⟨rk, K, r1, r2, r3⟩ := G
    have gone : ∀ p, p < X.length → g.getD (oK X of' p) false = true := fun p hp => rnF_no _ 0 hn (nuX X p) (Nat.zero_le _) (by have := nuX_lt X hp; omega)
    refine ⟨fun p => rk (oK X of' p), fun p q hp hq e => congrArg rk e, fun p hp j hj => ?_⟩
    have g10 := (ga_pos (X := X) (p := p) (by omega)).1
    cases e : headF (tsN X X.length) of' (oK X of' p) with
    | none =>
      have := headF_no e (nuX_lt X hp) rfl
      rw [nuX_hd hX hp] at this
      omega
    | some a =>
      obtain ⟨a1, a2, a3⟩ := headF_ok e
      obtain ⟨u, hu, rfl⟩ := nuX_sur X a1
      rw [nuX_hd hX hu] at a3
      obtain ⟨y1, y2⟩ := kid hp hu a2.symm g10 a3 hj
      have z := r3 _ (gone p hp) _ e j (by rw [nuX_hd hX hu]; exact y1)
      show rk (oK X of' (ko X p j)) < rk (oK X of' p)
      rw [y2]
      exact z.2
  · rintro ⟨rk, r1, r2⟩
    have key : ∀ n p, p < X.length → rk p < n → g.getD (oK X of' p) false = true := by
      intro n
      induction n with
      | zero => intro p hp h; omega
      | succ n ih =>
        intro p hp h
        rcases rdF_fix _ _ _ hR (nuX X p) (nuX_lt X hp) with z | z
        · exact z
        · exfalso
          cases e : headF (tsN X X.length) of' (of'.getD (nuX X p) 0) with
          | none =>
            rw [e] at z
            cases z
          | some a =>
            rw [e] at z
            obtain ⟨a1, a2, a3⟩ := headF_ok e
            obtain ⟨u, hu, rfl⟩ := nuX_sur X a1
            rw [nuX_hd hX hu] at a3
            have ru := r1 u p hu hp a2
            have : freeF (tsN X X.length) of' pt g (some (nuX X u)) = true := by
              refine frF_yes _ 0 (fun i _ hi => ?_)
              rw [nuX_hd hX hu, Nat.zero_add] at hi
              have hiu : i < ga X u := hi
              have k5 := (ko_mono hX hu hiu).2.2.2.2
              unfold pcl
              rw [nuX_pt hX H hu hiu]
              exact ih (ko X u i) k5 (by have := r2 u hu i hiu; omega)
            rw [this] at z
            cases z
    refine rnF_yes _ 0 (fun i _ hi => ?_)
    rw [Nat.zero_add] at hi
    obtain ⟨p, hp, rfl⟩ := nuX_sur X hi
    exact key _ p hp (Nat.lt_succ_self _)
/-- what names stand for, out of classes: a head, or the least name -/
def SKP (X : List Nat) (k : Nat → Nat) (S : SS) : Prop := (∀ x q, S x = some q → x < 8 ∧ q < X.length ∧ ∃ p, p < X.length ∧ gl X p = x ∧ k p = k q ∧ (10 ≤ gl X q ∨ (gl X q < x ∧ ∀ z, z < X.length → k z = k q → gl X q ≤ gl X z ∧ gl X z < 10))) ∧
  ∀ p, p < X.length → gl X p < 10 → S (gl X p) = none → ∀ z, z < X.length → k z = k p → gl X p ≤ gl X z ∧ gl X z < 10
theorem SKP.s1 {X : List Nat} {k : Nat → Nat} {S : SS} (H : SKP X k S) : S1 X S := fun x q e => by
  obtain ⟨h1, h2, p, -, -, -, h4⟩ := H.1 x q e
  exact ⟨h1, h2, fun z => h4.elim (fun w => by omega) (fun w => w.1)⟩
theorem name_sub {X : List Nat} (hX : BX X) {p : Nat} (hp : p < X.length) (h : gl X p < 10) : sub' X p = [gl X p] := sub_leaf hX hp (ga_name h)
theorem SKP.ac {X : List Nat} {n1 : Nat} (hX : BX X) {k : Nat → Nat} {S : SS} (H : SKP X k S) (G : GdK X n1 k) (A : AcK X k) : Ac X S := by
  obtain ⟨rk, r1, r2⟩ := A
  have hrN : ∀ x p, p < X.length → gl X p = x → x < 10 → rk (fpN x X) = rk p := fun x p hp e hx => by
    have hm : x ∈ X := by rw [← e]; exact List.mem_of_getElem? (gl_get hp)
    have h1 := fpN_mem hm
    have h2 : gl X (fpN x X) = x := by
      have key : ∀ (ys : List Nat), x ∈ ys → ys.getD (fpN x ys) 0 = x := by
        intro ys
        induction ys with
        | nil => intro h; simp at h
        | cons y r ih =>
          intro h
          by_cases c : y = x
          · subst c
            rw [fpN_eq]
            rfl
          · rw [fpN_ne c]
            exact ih ((List.mem_cons.mp h).resolve_left (fun z => c z.symm))
      exact key X hm
    exact r1 _ _ h1 hp (G.2.1 _ _ h1 hp (by rw [name_sub hX h1 (by omega), name_sub hX hp (by omega), h2, e]))
  refine ⟨fun x => if x < 16 then rk (fpN x X) * 16 + x else 0, sJ (fun x => rk (fpN x X) * 16 + x) 16 + 1, fun x => ?_, fun x q e i hi hn => ?_⟩
  · dsimp only
    split
    · rename_i h
      have := sJ_mem (f := fun x => rk (fpN x X) * 16 + x) h
      omega
    · omega
  · obtain ⟨h1, h2, p, h3, h4, h5, h6⟩ := H.1 x q e
    dsimp only
    rw [if_pos (by omega), if_pos (by omega)]
    have t3 := (bx_tl hX h2).2.2
    rw [hrN (gl X (q + i)) (q + i) (by omega) rfl hn, hrN x p h3 h4 (by omega), r1 p q h3 h2 h5]
    rcases h6 with g | ⟨g, -⟩
    · have hi0 : i ≠ 0 := fun z => by
        rw [z, Nat.add_zero] at hn
        omega
      have := AcK.in hX r2 h2 (q + i + 1) (q + i) (by omega) (by omega) (by omega)
      omega
    · have ht : tl X q = 1 := tl_leaf hX h2 (ga_name (by omega))
      have : i = 0 := by omega
      subst this
      rw [Nat.add_zero]
      omega
/-- rows behind each other, one for each part -/
def cK (W : Nat → List Nat) (X : List Nat) (p : Nat) : Nat → Nat → List Nat
  | 0, _ => []
  | n + 1, j => W (ko X p j) ++ cK W X p n (j + 1)
theorem cK_congr {W W' : Nat → List Nat} {X : List Nat} {p : Nat} : ∀ (n j : Nat), (∀ i, j ≤ i → i < j + n → W (ko X p i) = W' (ko X p i)) → cK W X p n j = cK W' X p n j
  | 0, j, h => rfl
  | n + 1, j, h => by
    show W (ko X p j) ++ cK W X p n (j + 1) = W' (ko X p j) ++ cK W' X p n (j + 1)
    rw [h j (Nat.le_refl _) (by omega), cK_congr n (j + 1) (fun i h1 h2 => h i (by omega) (by omega))]
theorem cK_two {W : Nat → List Nat} {X : List Nat} {p q : Nat} : ∀ (n j : Nat), (∀ i, j ≤ i → i < j + n → W (ko X p i) = W (ko X q i)) → cK W X p n j = cK W X q n j
  | 0, j, h => rfl
  | n + 1, j, h => by
    show W (ko X p j) ++ cK W X p n (j + 1) = W (ko X q j) ++ cK W X q n (j + 1)
    rw [h j (Nat.le_refl _) (by omega), cK_two n (j + 1) (fun i h1 h2 => h i (by omega) (by omega))]
theorem sub_kids {X : List Nat} (hX : BX X) {p : Nat} (hp : p < X.length) : ∀ (n j : Nat), j + n = ga X p → (X.drop (ko X p j)).take (p + tl X p - ko X p j) = cK (sub' X) X p n j
  | 0, j, h => by
    rw [Nat.add_zero] at h
    subst h
    rw [ko_last hX hp, Nat.sub_self, List.take_zero]
    rfl
  | n + 1, j, h => by
    have hj : j < ga X p := by omega
    obtain ⟨k1, k2, k3, k4, k5⟩ := ko_mono hX hp hj
    have ih := sub_kids hX hp n (j + 1) (by omega)
    show _ = sub' X (ko X p j) ++ cK (sub' X) X p n (j + 1)
    rw [← ih, show p + tl X p - ko X p j = tl X (ko X p j) + (p + tl X p - ko X p (j + 1)) by show _ = tl X (ko X p j) + (p + tl X p - (ko X p j + tl X (ko X p j))); omega, List.take_add, List.drop_drop]
    rfl
theorem sub_hd {X : List Nat} (hX : BX X) {p : Nat} (hp : p < X.length) : sub' X p = gl X p :: cK (sub' X) X p (ga X p) 0 := by
  rw [sub_cons hX hp, ← sub_kids hX hp (ga X p) 0 (Nat.zero_add _)]
  show gl X p :: (X.drop (p + 1)).take (tl X p - 1) = gl X p :: (X.drop (p + 1)).take (p + tl X p - (p + 1))
  rw [show p + tl X p - (p + 1) = tl X p - 1 by omega]
theorem exF_cK (E : Nat → List Nat) {X : List Nat} {p : Nat} : ∀ (n j : Nat), exF E (cK (sub' X) X p n j) = cK (fun q => exF E (sub' X q)) X p n j
  | 0, j => rfl
  | n + 1, j => by
    show exF E (sub' X (ko X p j) ++ cK (sub' X) X p n (j + 1)) = exF E (sub' X (ko X p j)) ++ cK (fun q => exF E (sub' X q)) X p n (j + 1)
    rw [exF_app, exF_cK E n (j + 1)]
theorem exF_hd {X : List Nat} (hX : BX X) (E : Nat → List Nat) {p : Nat} (hp : p < X.length) (h : 10 ≤ gl X p) : exF E (sub' X p) = gl X p :: cK (fun q => exF E (sub' X q)) X p (ga X p) 0 := by
  rw [sub_hd hX hp, exF_cons, exF_cK]
  unfold exN
  rw [if_neg (by omega)]
  rfl
theorem exF_nm {X : List Nat} (hX : BX X) (E : Nat → List Nat) {p : Nat} (hp : p < X.length) (h : gl X p < 10) : exF E (sub' X p) = E (gl X p) := by
  rw [name_sub hX hp h, exF_cons]
  unfold exN
  rw [if_pos h]
  exact List.append_nil _
/-- a name: its class has no head, and it comes to the least; or it comes to what a head comes to -/
theorem SKP.nm {X : List Nat} {n1 : Nat} (hX : BX X) {k : Nat → Nat} {S : SS} (H : SKP X k S) (G : GdK X n1 k) {E : Nat → List Nat} (hE : ExP X S E) {p : Nat} (hp : p < X.length) (h : gl X p < 10) :
    (∃ q, q < X.length ∧ k q = k p ∧ gl X q < 10 ∧ (∀ z, z < X.length → k z = k p → gl X q ≤ gl X z ∧ gl X z < 10) ∧ exF E (sub' X p) = [gl X q]) ∨ ∃ q, q < X.length ∧ k q = k p ∧ 10 ≤ gl X q ∧ exF E (sub' X p) = exF E (sub' X q) := by
  rw [exF_nm hX E hp h]
  have e := hE (gl X p)
  cases es : S (gl X p) with
  | none =>
    rw [es] at e
    exact Or.inl ⟨p, hp, rfl, h, H.2 p hp h es, e⟩
  | some q =>
    rw [es] at e
    obtain ⟨h1, h2, u, h3, h4, h5, h6⟩ := H.1 _ q es
    have kpu : k p = k u := G.2.1 p u hp h3 (by rw [name_sub hX hp h, name_sub hX h3 (by omega), h4])
    have kq : k q = k p := (kpu.trans h5).symm
    rcases h6 with g | ⟨g1, g2⟩
    · exact Or.inr ⟨q, h2, kq, g, e⟩
    · have gq := (g2 q h2 rfl).2
      refine Or.inl ⟨q, h2, kq, gq, fun z hz ez => g2 z hz (by rw [ez, kq]), ?_⟩
      rw [e]
      show exF E (sub' X q) = [gl X q]
      rw [exF_nm hX E h2 gq]
      have e2 := hE (gl X q)
      cases es2 : S (gl X q) with
      | none =>
        rw [es2] at e2
        exact e2
      | some q2 =>
        exfalso
        obtain ⟨m1, m2, u2, m3, m4, m5, m6⟩ := H.1 _ q2 es2
        have kq2 : k q = k u2 := G.2.1 q u2 h2 m3 (by rw [name_sub hX h2 gq, name_sub hX m3 (by omega), m4])
        have := g2 q2 m2 (by rw [← m5, ← kq2])
        rcases m6 with m6 | ⟨m6, -⟩ <;> omega
/-- places of one class come to the same -/
theorem SKP.same {X : List Nat} {n1 : Nat} (hX : BX X) {k : Nat → Nat} {S : SS} (H : SKP X k S) (G : GdK X n1 k) (A : AcK X k) {E : Nat → List Nat} (hE : ExP X S E) : ∀ p q, p < X.length → q < X.length → k p = k q → exF E (sub' X p) = exF E (sub' X q) := by
  obtain ⟨rk, r1, r2⟩ := A
  have key : ∀ n p q, rk p < n → p < X.length → q < X.length → k p = k q → exF E (sub' X p) = exF E (sub' X q) := by
    intro n
    induction n with
    | zero => intro p q h; omega
    | succ n ih =>
      intro p q hr hp hq e
      have hh : ∀ a b, a < X.length → b < X.length → k a = k b → k a = k p → 10 ≤ gl X a → 10 ≤ gl X b → exF E (sub' X a) = exF E (sub' X b) := fun a b ha hb e1 e2 g1 g2 => by
        obtain ⟨x1, x2⟩ := G.2.2 a b ha hb e1 g1 g2
        rw [exF_hd hX E ha g1, exF_hd hX E hb g2, x1, ga_eq x1, cK_two (W := fun q => exF E (sub' X q)) (p := a) (q := b) (ga X b) 0 (fun i _ hi => ?_)]
        rw [Nat.zero_add] at hi
        have hia : i < ga X a := by rw [ga_eq x1]; exact hi
        have ra := r1 a p ha hp e2
        exact ih _ _ (by have := r2 a ha i hia; omega) (ko_mono hX ha hia).2.2.2.2 (ko_mono hX hb hi).2.2.2.2 (x2 i hia)
      by_cases gp : gl X p < 10
      · rcases H.nm hX G hE hp gp with ⟨u, u1, u2, u3, u4, u5⟩ | ⟨u, u1, u2, u3, u4⟩
        · by_cases gq : gl X q < 10
          · rcases H.nm hX G hE hq gq with ⟨v, v1, v2, v3, v4, v5⟩ | ⟨v, v1, v2, v3, v4⟩
            · rw [u5, v5]
              have a1 := (u4 v v1 (by rw [v2, e])).1
              have a2 := (v4 u u1 (by rw [u2, e])).1
              rw [show gl X u = gl X v by omega]
            · have := (u4 v v1 (by rw [v2, e])).2
              omega
          · have := (u4 q hq e.symm).2
            omega
        · by_cases gq : gl X q < 10
          · rcases H.nm hX G hE hq gq with ⟨v, v1, v2, v3, v4, v5⟩ | ⟨v, v1, v2, v3, v4⟩
            · have := (v4 u u1 (by rw [u2, e])).2
              omega
            · rw [u4, v4]
              exact hh u v u1 v1 (by rw [u2, v2, e]) u2 u3 v3
          · rw [u4]
            exact hh u q u1 hq (by rw [u2, e]) u2 u3 (by omega)
      · by_cases gq : gl X q < 10
        · rcases H.nm hX G hE hq gq with ⟨v, v1, v2, v3, v4, v5⟩ | ⟨v, v1, v2, v3, v4⟩
          · have := (v4 p hp e).2
            omega
          · rw [v4]
            exact hh p v hp v1 (by rw [v2, e]) rfl (by omega) v3
        · exact hh p q hp hq e rfl (by omega) (by omega)
  exact fun p q hp hq e => key _ p q (Nat.lt_succ_self _) hp hq e
theorem leF_ex {ts : List (List Nat)} {of' : List Nat} {its : Nat} : ∀ K, leF ts of' its K = 8 ∨ ∃ i, i < K ∧ of'.getD i 0 = its ∧ hdT ts i = leF ts of' its K
  | 0 => Or.inl rfl
  | K + 1 => by
    rw [leF_succ]
    by_cases c : of'.getD K 0 = its
    · rw [if_pos c]
      rcases Nat.le_total (leF ts of' its K) (hdT ts K) with z | z
      · rw [Nat.min_eq_left z]
        rcases leF_ex (ts := ts) (of' := of') (its := its) K with y | ⟨i, i1, i2, i3⟩
        · exact Or.inl y
        · exact Or.inr ⟨i, by omega, i2, i3⟩
      · rw [Nat.min_eq_right z]
        exact Or.inr ⟨K, by omega, c, rfl⟩
    · rw [if_neg c]
      rcases leF_ex (ts := ts) (of' := of') (its := its) K with y | ⟨i, i1, i2, i3⟩
      · exact Or.inl y
      · exact Or.inr ⟨i, by omega, i2, i3⟩
/-- what the reference tells of a class -/
theorem wcF_rel {X : List Nat} {n1 : Nat} (hX : BX X) {pt of' : List Nat} (HP : PtX (tsN X X.length) pt (tsN X X.length).length 0) {S : SS} (H : SKP X (oK X of') S) (G : GdK X n1 (oK X of')) (A : AcK X (oK X of')) {E : Nat → List Nat} (hE : ExP X S E) : ∀ (f p : Nat) (r : Option (List Nat)) (C N : Nat), p < X.length → wcF (tsN X X.length) of' pt f (oK X of' p) = some (r, C, N) →
    ((exF E (sub' X p)).length ≤ 16 → r = some (exF E (sub' X p))) ∧ (16 < (exF E (sub' X p)).length → r = none) := by
  have same := H.same hX G A hE
  intro f
  induction f with
  | zero => intro p r C N hp h; cases h
  | succ f ih =>
    intro p r C N hp h
    unfold wcF at h
    cases e : headF (tsN X X.length) of' (oK X of' p) with
    | none =>
      rw [e] at h
      simp only [Option.some.injEq, Prod.mk.injEq] at h
      obtain ⟨rfl, -, -⟩ := h
      have nh : ∀ z, z < X.length → oK X of' z = oK X of' p → gl X z < 10 := fun z hz ez => by
        have := headF_no e (nuX_lt X hz) ez
        rw [nuX_hd hX hz] at this
        exact this
      rcases H.nm hX G hE hp (nh p hp rfl) with ⟨u, u1, u2, u3, u4, u5⟩ | ⟨u, u1, u2, u3, u4⟩
      · rw [u5]
        have a1 : leF (tsN X X.length) of' (oK X of' p) (tsN X X.length).length ≤ gl X u := by
          have := leF_le (ts := tsN X X.length) (of' := of') (its := oK X of' p) (i := nuX X u) u2 (nuX_lt X u1)
          rw [nuX_hd hX u1] at this
          exact this
        have u8 := gl_8 hX u1 u3
        have a2 : gl X u ≤ leF (tsN X X.length) of' (oK X of' p) (tsN X X.length).length := by
          rcases leF_ex (ts := tsN X X.length) (of' := of') (its := oK X of' p) (tsN X X.length).length with y | ⟨i, i1, i2, i3⟩
          · omega
          · obtain ⟨z, hz, rfl⟩ := nuX_sur X i1
            rw [nuX_hd hX hz] at i3
            have := (u4 z hz i2).1
            omega
        rw [show leF (tsN X X.length) of' (oK X of' p) (tsN X X.length).length = gl X u by omega]
        exact ⟨fun _ => rfl, fun z => by simp at z⟩
      · have := nh u u1 u2
        omega
    | some a =>
      rw [e] at h
      dsimp only at h
      obtain ⟨a1, a2, a3⟩ := headF_ok e
      obtain ⟨u, hu, rfl⟩ := nuX_sur X a1
      rw [nuX_hd hX hu] at a3 h
      rw [← same u p hu hp a2, exF_hd hX E hu a3]
      have loop : ∀ (n j : Nat) (made : List Nat) (C N : Nat) (r : Option (List Nat)) (C' N' : Nat), j + n = ga X u → made.length ≤ 16 → wcL (wcF (tsN X X.length) of' pt f) of' pt (nuX X u) n j made C N = some (r, C', N') →
          ((made ++ cK (fun q => exF E (sub' X q)) X u n j).length ≤ 16 → r = some (made ++ cK (fun q => exF E (sub' X q)) X u n j)) ∧ (16 < (made ++ cK (fun q => exF E (sub' X q)) X u n j).length → r = none) := by
        intro n
        induction n with
        | zero =>
          intro j made C N r C' N' hj hm h
          simp only [wcL, Option.some.injEq, Prod.mk.injEq] at h
          obtain ⟨rfl, -, -⟩ := h
          rw [show cK (fun q => exF E (sub' X q)) X u 0 j = [] from rfl, List.append_nil]
          exact ⟨fun _ => rfl, fun z => by omega⟩
        | succ n ihn =>
          intro j made C N r C' N' hj hm h
          have hju : j < ga X u := by omega
          have k5 := (ko_mono hX hu hju).2.2.2.2
          rw [wcL, nuX_pt hX HP hu hju] at h
          have ec : cK (fun q => exF E (sub' X q)) X u (n + 1) j = exF E (sub' X (ko X u j)) ++ cK (fun q => exF E (sub' X q)) X u n (j + 1) := rfl
          rw [ec, ← List.append_assoc]
          have hlen : (made ++ exF E (sub' X (ko X u j)) ++ cK (fun q => exF E (sub' X q)) X u n (j + 1)).length = made.length + (exF E (sub' X (ko X u j))).length + (cK (fun q => exF E (sub' X q)) X u n (j + 1)).length := by rw [List.length_append, List.length_append]
          split at h
          · cases h
          · rename_i c1 n1 e1
            simp only [Option.some.injEq, Prod.mk.injEq] at h
            obtain ⟨rfl, -, -⟩ := h
            have := ih (ko X u j) none c1 n1 k5 e1
            refine ⟨fun z => ?_, fun _ => rfl⟩
            have := this.1 (by omega)
            cases this
          · rename_i x c1 n1 e1
            have i1 := ih (ko X u j) (some x) c1 n1 k5 e1
            have hx16 : (exF E (sub' X (ko X u j))).length ≤ 16 := by
              rcases Nat.lt_or_ge 16 (exF E (sub' X (ko X u j))).length with z | z
              · have := i1.2 z
                cases this
              · exact z
            have ex := Option.some.inj (i1.1 hx16)
            subst ex
            split at h
            · rename_i c
              simp only [Option.some.injEq, Prod.mk.injEq] at h
              obtain ⟨rfl, -, -⟩ := h
              exact ⟨fun z => by omega, fun _ => rfl⟩
            · rename_i c
              exact ihn (j + 1) (made ++ exF E (sub' X (ko X u j))) _ _ r C' N' (by omega) (by rw [List.length_append]; omega) h
      have := loop (ga X u) 0 [gl X u] 1 1 r C N (Nat.zero_add _) (Nat.le_of_ble_eq_true rfl) h
      exact this
/-- what the reference tells of all names -/
theorem anF_rel {X : List Nat} {n1 : Nat} (hX : BX X) {pt of' : List Nat} (HP : PtX (tsN X X.length) pt (tsN X X.length).length 0) {S : SS} (H : SKP X (oK X of') S) (G : GdK X n1 (oK X of')) (A : AcK X (oK X of')) {E : Nat → List Nat} (hE : ExP X S E) {F : Nat} : ∀ (n k : Nat) (rows : List (List Nat)) (C N : Nat) (r : Option (List (List Nat))) (C' N' : Nat), k + n = (tsN X X.length).length → rows.length = 8 → (∀ x, x < 8 → rows.getD x [] = E x ∨ (rows.getD x [] = [x] ∧ ∃ i, k ≤ i ∧ i < k + n ∧ hdT (tsN X X.length) i = x)) → anF (tsN X X.length) of' pt F n k rows C N = some (r, C', N') →
    ((∀ x, x < 8 → (E x).length ≤ 16) → r = some ((List.range 8).map E)) ∧ ((∃ i, k ≤ i ∧ i < k + n ∧ hdT (tsN X X.length) i < 8 ∧ 16 < (E (hdT (tsN X X.length) i)).length) → r = none) := by
  intro n
  induction n with
  | zero =>
    intro k rows C N r C' N' hk hl hr h
    simp only [anF, Option.some.injEq, Prod.mk.injEq] at h
    obtain ⟨rfl, -, -⟩ := h
    refine ⟨fun _ => congrArg some ?_, fun ⟨i, h1, h2, _⟩ => by omega⟩
    apply List.ext_getElem?
    intro x
    rcases Nat.lt_or_ge x 8 with hx | hx
    · rw [List.getElem?_map, List.getElem?_range hx]
      rcases hr x hx with z | ⟨-, i, h1, h2, -⟩
      · rw [List.getD_eq_getElem?_getD, List.getElem?_eq_getElem (by omega)] at z
        rw [List.getElem?_eq_getElem (by omega)]
        exact congrArg some z
      · omega
    · rw [List.getElem?_eq_none (by omega), List.getElem?_eq_none (by simpa using hx)]
  | succ n ih =>
    intro k rows C N r C' N' hk hl hr h
    unfold anF at h
    obtain ⟨p, hp, rfl⟩ := nuX_sur X (show k < (tsN X X.length).length by omega)
    have ehd := nuX_hd hX hp
    by_cases c : 10 ≤ hdT (tsN X X.length) (nuX X p)
    · rw [if_pos c] at h
      have z := ih (nuX X p + 1) rows C N r C' N' (by omega) hl (fun x hx => by
        rcases hr x hx with y | ⟨y, i, h1, h2, h3⟩
        · exact Or.inl y
        · rcases Nat.eq_or_lt_of_le h1 with q | q
          · rw [← q] at h3
            omega
          · exact Or.inr ⟨y, i, by omega, by omega, h3⟩) h
      refine ⟨z.1, fun ⟨i, h1, h2, h3, h4⟩ => z.2 ⟨i, ?_, by omega, h3, h4⟩⟩
      rcases Nat.eq_or_lt_of_le h1 with q | q
      · rw [← q] at h3
        omega
      · omega
    · rw [if_neg c] at h
      have g10 : gl X p < 10 := by omega
      have g8 := gl_8 hX hp g10
      have eE : exF E (sub' X p) = E (gl X p) := exF_nm hX E hp g10
      split at h
      · cases h
      · rename_i c1 m1 e1
        simp only [Option.some.injEq, Prod.mk.injEq] at h
        obtain ⟨rfl, -, -⟩ := h
        have w := wcF_rel hX HP H G A hE F p none c1 m1 hp e1
        rw [eE] at w
        refine ⟨fun z => ?_, fun _ => rfl⟩
        have := w.1 (z _ g8)
        cases this
      · rename_i x c1 m1 e1
        have w := wcF_rel hX HP H G A hE F p (some x) c1 m1 hp e1
        rw [eE] at w
        have hx16 : (E (gl X p)).length ≤ 16 := by
          rcases Nat.lt_or_ge 16 (E (gl X p)).length with z | z
          · have := w.2 z
            cases this
          · exact z
        have ex := Option.some.inj (w.1 hx16)
        subst ex
        rw [ehd] at h
        have gset : ∀ y, y < 8 → (rows.set (gl X p) (E (gl X p))).getD y [] = if gl X p = y then E (gl X p) else rows.getD y [] := fun y hy => by
          rw [List.getD_eq_getElem?_getD, List.getD_eq_getElem?_getD]
          by_cases e : gl X p = y
          · subst e
            rw [List.getElem?_set_self (by omega), if_pos rfl]
            rfl
          · rw [List.getElem?_set_ne e, if_neg e]
        have z := ih (nuX X p + 1) (rows.set (gl X p) (E (gl X p))) _ _ r C' N' (by omega) (by rw [List.length_set]; exact hl) (fun y hy => by
          rw [gset y hy]
          by_cases e : gl X p = y
          · rw [if_pos e, e]
            exact Or.inl rfl
          · rw [if_neg e]
            rcases hr y hy with w2 | ⟨w2, i, h1, h2, h3⟩
            · exact Or.inl w2
            · rcases Nat.eq_or_lt_of_le h1 with q | q
              · rw [← q, ehd] at h3
                exact absurd h3 e
              · exact Or.inr ⟨w2, i, by omega, by omega, h3⟩) h
        refine ⟨z.1, fun ⟨i, h1, h2, h3, h4⟩ => ?_⟩
        rcases Nat.eq_or_lt_of_le h1 with q | q
        · rw [← q, ehd] at h4
          omega
        · exact z.2 ⟨i, by omega, by omega, h3, h4⟩
