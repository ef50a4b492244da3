/-! the class, strongly: what its loop over pairs keeps; nothing within itself; places for names (printed by wip/p20/genT8.py) -/
/-- classes tell a head of theirs -/
def HDP (X : List Nat) (k : Nat → Nat) (hd : Nat → Option Nat) : Prop := (∀ i, i < 32 → k i < 32) ∧ (∀ p, p < X.length → k p < X.length ∧ k (k p) = k p) ∧ (∀ p, p < X.length → ∀ a, hd (k p) = some a → a < X.length ∧ 10 ≤ gl X a ∧ k a = k p) ∧ ∀ p, p < X.length → 10 ≤ gl X p → hd (k p) ≠ none
def IC (X : List Nat) (n1 : Nat) (k : Nat → Nat) (hd : Nat → Option Nat) (sk : PL2) : Prop := HDP X k hd ∧ (∀ p q, p < X.length → q < X.length → sub' X p = sub' X q → k p = k q) ∧ ClK X k sk ∧ Gnk X.length k sk 0 n1 ∧ (∀ k', GdK X n1 k' → Sbk X.length k k' ∧ ∀ z ∈ sk, k' z.1 = k' z.2) ∧ ∀ z ∈ sk, z.1 < X.length ∧ z.2 < X.length
def fxK (n : Nat) (k : Nat → Nat) : Nat := sJ (fun c => if k c = c then 1 else 0) n
def hdM (k : Nat → Nat) (hd : Nat → Option Nat) (zl zr : Nat) : Nat → Option Nat := fun y => if y = zl ∧ hd zl = none then hd zr else hd y
def nwM (X : List Nat) (hd : Nat → Option Nat) (zl zr : Nat) : PL2 := match hd zl, hd zr with
  | some a, some b => kdL X a b (ga X a) 0
  | _, _ => []
theorem IC.skip {X : List Nat} {n1 : Nat} {k : Nat → Nat} {hd : Nat → Option Nat} {z : Nat × Nat} {sk : PL2} (I : IC X n1 k hd (z :: sk)) (h : k z.1 = k z.2) : IC X n1 k hd sk := by
  obtain ⟨i1, i2, i3, i4, i5, i6⟩ := I
  obtain ⟨h1, h2⟩ := i6 z List.mem_cons_self
  refine ⟨i1, i2, i3.skip h1 h2 h, fun k' hs hps => i4 k' hs (fun y hy => ?_), fun k' hG => ⟨(i5 k' hG).1, fun y hy => (i5 k' hG).2 y (List.mem_cons_of_mem _ hy)⟩, fun y hy => i6 y (List.mem_cons_of_mem _ hy)⟩
  rcases List.mem_cons.mp hy with rfl | hy
  · exact hs _ _ h1 h2 h
  · exact hps y hy
theorem IC.mrg {X : List Nat} {n1 : Nat} (hX : BX X) {k : Nat → Nat} {hd : Nat → Option Nat} {z : Nat × Nat} {sk : PL2} (I : IC X n1 k hd (z :: sk)) (hne : k z.1 ≠ k z.2) (hgg : ∀ a b, hd (k z.1) = some a → hd (k z.2) = some b → gl X a = gl X b) :
    IC X n1 (mgK k (k z.1) (k z.2)) (hdM k hd (k z.1) (k z.2)) (nwM X hd (k z.1) (k z.2) ++ sk) ∧ fxK X.length (mgK k (k z.1) (k z.2)) + 1 ≤ fxK X.length k ∧ (nwM X hd (k z.1) (k z.2)).length ≤ 3 := by
  obtain ⟨⟨a1, a2, a3, a4⟩, i2, i3, i4, i5, i6⟩ := I
  obtain ⟨h1, h2⟩ := i6 z List.mem_cons_self
  have hs0 := mgK_sb X.length k (k z.1) (k z.2)
  have l1 := a2 z.1 h1
  have l2 := a2 z.2 h2
  have mg_r : ∀ p, k p = k z.2 → mgK k (k z.1) (k z.2) p = k z.1 := fun p e => if_pos e
  have mg_n : ∀ p, k p ≠ k z.2 → mgK k (k z.1) (k z.2) p = k p := fun p e => if_neg e
  have hz : mgK k (k z.1) (k z.2) z.1 = mgK k (k z.1) (k z.2) z.2 := by rw [mg_n _ hne, mg_r _ rfl]
  have up : ∀ k' : Nat → Nat, Sbk X.length (mgK k (k z.1) (k z.2)) k' → (∀ y ∈ nwM X hd (k z.1) (k z.2) ++ sk, k' y.1 = k' y.2) → Sbk X.length k k' ∧ ∀ y ∈ z :: sk, k' y.1 = k' y.2 := fun k' hs hps => ⟨hs0.tr hs, fun y hy => by
    rcases List.mem_cons.mp hy with rfl | hy
    · exact hs _ _ h1 h2 hz
    · exact hps y (List.mem_append_right _ hy)⟩
  have ecs : ∀ y, hd y = none ∨ ∃ a, hd y = some a := fun y => by cases hd y with | none => exact Or.inl rfl | some a => exact Or.inr ⟨a, rfl⟩
  have H : HDP X (mgK k (k z.1) (k z.2)) (hdM k hd (k z.1) (k z.2)) := by
    refine ⟨fun i hi => ?_, fun p hp => ?_, fun p hp a ha => ?_, fun p hp hg hn => ?_⟩
    · have := a1 i hi
      have := hX.2.2
      unfold mgK
      split <;> omega
    · obtain ⟨p1, p2⟩ := a2 p hp
      by_cases e : k p = k z.2
      · rw [mg_r p e]
        exact ⟨l1.1, by rw [mg_n _ (by rw [l1.2]; exact hne), l1.2]⟩
      · rw [mg_n p e]
        exact ⟨p1, by rw [mg_n _ (by rw [p2]; exact e), p2]⟩
    · unfold hdM at ha
      by_cases e : k p = k z.2
      · rw [mg_r p e] at ha ⊢
        by_cases c : hd (k z.1) = none
        · rw [if_pos ⟨rfl, c⟩] at ha
          obtain ⟨x1, x2, x3⟩ := a3 z.2 h2 a ha
          exact ⟨x1, x2, mg_r a x3⟩
        · rw [if_neg (fun w => c w.2)] at ha
          obtain ⟨x1, x2, x3⟩ := a3 z.1 h1 a ha
          exact ⟨x1, x2, by rw [mg_n a (by rw [x3]; exact hne), x3]⟩
      · rw [mg_n p e] at ha ⊢
        by_cases c : k p = k z.1 ∧ hd (k z.1) = none
        · rw [if_pos c] at ha
          obtain ⟨x1, x2, x3⟩ := a3 z.2 h2 a ha
          exact ⟨x1, x2, by rw [mg_r a x3, c.1]⟩
        · rw [if_neg c] at ha
          obtain ⟨x1, x2, x3⟩ := a3 p hp a ha
          exact ⟨x1, x2, by rw [mg_n a (by rw [x3]; exact e), x3]⟩
    · unfold hdM at hn
      have hold := a4 p hp hg
      by_cases e : k p = k z.2
      · rw [mg_r p e] at hn
        by_cases c : hd (k z.1) = none
        · rw [if_pos ⟨rfl, c⟩] at hn
          exact hold (by rw [e]; exact hn)
        · rw [if_neg (fun w => c w.2)] at hn
          exact c hn
      · rw [mg_n p e] at hn
        by_cases c : k p = k z.1 ∧ hd (k z.1) = none
        · exact hold (by rw [c.1]; exact c.2)
        · rw [if_neg c] at hn
          exact hold hn
  refine ⟨⟨H, fun p q hp hq e => hs0 p q hp hq (i2 p q hp hq e), ?_, fun k' hs hps => (fun u => i4 k' u.1 u.2) (up k' hs hps), fun k' hG => ?_, fun y hy => ?_⟩, ?_, ?_⟩
  · unfold nwM
    rcases ecs (k z.1) with el | ⟨a, el⟩
    · rw [el]
      exact i3.one h1 h2 (Or.inl (fun p hp e => by
        rcases Nat.lt_or_ge (gl X p) 10 with c | c
        · exact c
        · exact absurd (by rw [e]; exact el) (a4 p hp c)))
    · rcases ecs (k z.2) with er | ⟨b, er⟩
      · rw [el, er]
        exact i3.one h1 h2 (Or.inr (fun p hp e => by
          rcases Nat.lt_or_ge (gl X p) 10 with c | c
          · exact c
          · exact absurd (by rw [e]; exact er) (a4 p hp c)))
      · rw [el, er]
        obtain ⟨x1, x2, x3⟩ := a3 z.1 h1 a el
        obtain ⟨y1, y2, y3⟩ := a3 z.2 h2 b er
        exact i3.two h1 h2 x1 y1 x3 y3 x2 y2 (hgg a b el er)
  · obtain ⟨s1, s2⟩ := i5 k' hG
    have sz := s2 z List.mem_cons_self
    refine ⟨mgK_sound h1 h2 s1 sz, fun y hy => ?_⟩
    rcases List.mem_append.mp hy with hy | hy
    · unfold nwM at hy
      rcases ecs (k z.1) with el | ⟨a, el⟩
      · rw [el] at hy
        simp at hy
      · rcases ecs (k z.2) with er | ⟨b, er⟩
        · rw [el, er] at hy
          simp at hy
        · rw [el, er] at hy
          obtain ⟨x1, x2, x3⟩ := a3 z.1 h1 a el
          obtain ⟨y1, y2, y3⟩ := a3 z.2 h2 b er
          obtain ⟨i, hi⟩ := List.getElem?_of_mem hy
          have hl := (List.getElem?_eq_some_iff.mp hi).1
          rw [kdL_len] at hl
          rw [kdL_get X a b _ 0 i hl, Nat.zero_add] at hi
          cases hi
          exact (hG.heads h1 h2 s1 sz x1 y1 x3 y3 x2 y2).2 i hl
    · exact s2 y (List.mem_cons_of_mem _ hy)
  · rcases List.mem_append.mp hy with hy | hy
    · unfold nwM at hy
      rcases ecs (k z.1) with el | ⟨a, el⟩
      · rw [el] at hy
        simp at hy
      · rcases ecs (k z.2) with er | ⟨b, er⟩
        · rw [el, er] at hy
          simp at hy
        · rw [el, er] at hy
          exact kdL_in hX (a3 z.1 h1 a el).1 (a3 z.2 h2 b er).1 (hgg a b el er) y hy
    · exact i6 y (List.mem_cons_of_mem _ hy)
  · have e := sJ_upd (f := fun c => if mgK k (k z.1) (k z.2) c = c then 1 else 0) (g := fun c => if k c = c then 1 else 0) (k := k z.2) (n := X.length) l2.1 (fun i hi => by
      by_cases e : k i = k z.2
      · rw [mg_r i e, if_neg (fun w => hne (by rw [← e, ← w, l1.2])), if_neg (fun w => hi (by rw [← e, w]))]
      · rw [mg_n i e])
    rw [if_pos l2.2, mg_r _ l2.2, if_neg hne] at e
    unfold fxK
    omega
  · unfold nwM
    rcases ecs (k z.1) with el | ⟨a, el⟩
    · rw [el]
      exact Nat.zero_le _
    · rcases ecs (k z.2) with er | ⟨b, er⟩
      · rw [el, er]
        exact Nat.zero_le _
      · rw [el, er]
        show (kdL X a b (ga X a) 0).length ≤ 3
        rw [kdL_len]
        exact ga_le hX (a3 z.1 h1 a el).1
theorem IC.no {X : List Nat} {n1 : Nat} {k : Nat → Nat} {hd : Nat → Option Nat} {z : Nat × Nat} {sk : PL2} (I : IC X n1 k hd (z :: sk)) {a b : Nat} (ea : hd (k z.1) = some a) (eb : hd (k z.2) = some b) (hg : gl X a ≠ gl X b) : ¬ ∃ k', GdK X n1 k' := fun ⟨k', hG⟩ => by
  obtain ⟨⟨a1, a2, a3, a4⟩, i2, i3, i4, i5, i6⟩ := I
  obtain ⟨h1, h2⟩ := i6 z List.mem_cons_self
  obtain ⟨x1, x2, x3⟩ := a3 z.1 h1 a ea
  obtain ⟨y1, y2, y3⟩ := a3 z.2 h2 b eb
  obtain ⟨s1, s2⟩ := i5 k' hG
  exact hg (hG.heads h1 h2 s1 (s2 z List.mem_cons_self) x1 y1 x3 y3 x2 y2).1
theorem IC.mn {X : List Nat} {n1 : Nat} {k : Nat → Nat} {hd : Nat → Option Nat} (I : IC X n1 k hd []) : MnK X n1 k := by
  obtain ⟨i1, i2, i3, i4, i5, i6⟩ := I
  exact ⟨i3.end (i4 k (Sbk.rf _ _) (fun y hy => by simp at hy)) i2, fun k' hG => (i5 k' hG).1⟩
theorem sJ_lt {f g : Nat → Nat} : ∀ {n j : Nat}, (∀ i, i < n → f i ≤ g i) → j < n → f j < g j → sJ f n + 1 ≤ sJ g n
  | 0, j, h, hj, _ => by omega
  | n + 1, j, h, hj, hlt => by
    show sJ f n + f n + 1 ≤ sJ g n + g n
    have hn := h n (by omega)
    by_cases e : j = n
    · subst e
      have := sJ_le (n := j) (fun i hi => h i (by omega))
      omega
    · have := sJ_lt (n := n) (j := j) (fun i hi => h i (by omega)) (by omega) hlt
      omega
theorem bt_st {m n y : Nat} : bt (m ||| 2 ^ n) y ↔ bt m y ∨ y = n := by
  rw [bt_or]
  constructor
  · rintro (h | h)
    · exact Or.inl h
    · rw [bt_tb, Nat.testBit_two_pow, decide_eq_true_eq] at h
      exact Or.inr h.symm
  · rintro (h | h)
    · exact Or.inl h
    · refine Or.inr ?_
      rw [bt_tb, Nat.testBit_two_pow, decide_eq_true_eq]
      exact h.symm
/-- clear classes: their parts were clear before -/
def CLI (X : List Nat) (k : Nat → Nat) (m : Nat) : Prop := ∃ (rk : Nat → Nat) (K : Nat), (∀ c, bt m c → rk c < K) ∧ ∀ p, p < X.length → bt m (k p) → 10 ≤ gl X p → ∀ j, j < ga X p → bt m (k (ko X p j)) ∧ rk (k (ko X p j)) < rk (k p)
def clr (X : List Nat) (k : Nat → Nat) (hd : Nat → Option Nat) (m c : Nat) : Prop := ∀ a, hd c = some a → ∀ j, j < ga X a → bt m (k (ko X a j))
theorem CLI.add {X : List Nat} {n1 : Nat} {k : Nat → Nat} {hd : Nat → Option Nat} (H : HDP X k hd) (G : GdK X n1 k) {m : Nat} (C : CLI X k m) {p0 : Nat} (hp0 : p0 < X.length) (hc : clr X k hd m (k p0)) : CLI X k (m ||| 2 ^ k p0) := by
  obtain ⟨rk, K, r1, r2⟩ := C
  by_cases hb : bt m (k p0)
  · have e : ∀ y, bt (m ||| 2 ^ k p0) y ↔ bt m y := fun y => by
      rw [bt_st]
      exact ⟨fun z => z.elim id (fun w => by rw [w]; exact hb), Or.inl⟩
    exact ⟨rk, K, fun c h => r1 c ((e c).mp h), fun p hp h g j hj => by
      obtain ⟨x1, x2⟩ := r2 p hp ((e _).mp h) g j hj
      exact ⟨(e _).mpr x1, x2⟩⟩
  · refine ⟨fun c => if c = k p0 then K else rk c, K + 1, fun c h => ?_, fun p hp h g j hj => ?_⟩
    · dsimp only
      split
      · omega
      · rename_i hc0
        have := r1 c ((bt_st.mp h).resolve_right hc0)
        omega
    · have ne : ∀ y, bt m y → y ≠ k p0 := fun y hy e => hb (by rw [← e]; exact hy)
      dsimp only
      by_cases e : k p = k p0
      · have hh := H.2.2.2 p hp g
        cases ea : hd (k p) with
        | none => exact absurd ea hh
        | some a =>
          obtain ⟨x1, x2, x3⟩ := H.2.2.1 p hp a ea
          obtain ⟨y1, y2⟩ := G.2.2 p a hp x1 x3.symm g x2
          have hb2 := hc a (by rw [← e]; exact ea) j (by rw [← ga_eq y1]; exact hj)
          rw [← y2 j hj] at hb2
          rw [if_neg (ne _ hb2), if_pos e]
          exact ⟨bt_st.mpr (Or.inl hb2), r1 _ hb2⟩
      · have hbp := (bt_st.mp h).resolve_right e
        obtain ⟨x1, x2⟩ := r2 p hp hbp g j hj
        rw [if_neg (ne _ x1), if_neg e]
        exact ⟨bt_st.mpr (Or.inl x1), x2⟩
theorem CLI.ac {X : List Nat} {k : Nat → Nat} {m : Nat} (C : CLI X k m) (h : ∀ p, p < X.length → bt m (k p)) : AcK X k := by
  obtain ⟨rk, K, r1, r2⟩ := C
  exact ⟨fun p => rk (k p), fun p q hp hq e => congrArg rk e, fun p hp j hj => (r2 p hp (h p hp) (ga_pos (X := X) (p := p) (by omega)).1 j hj).2⟩
def cnM (X : List Nat) (k : Nat → Nat) (m : Nat) : Nat := sJ (fun c => if k c = c ∧ m >>> c % 2 = 1 then 1 else 0) X.length
theorem cnM_le {X : List Nat} {n1 : Nat} {k : Nat → Nat} (h0 : k 0 = k n1) (hn : n1 < X.length) (hn0 : 0 < n1) (m : Nat) : cnM X k m + 1 ≤ X.length := by
  obtain ⟨c, hc, hk⟩ : ∃ c, c < X.length ∧ k c ≠ c := by
    by_cases e : k 0 = 0
    · exact ⟨n1, hn, fun z => by rw [← h0, e] at z; omega⟩
    · exact ⟨0, by omega, e⟩
  have h1 : cnM X k m ≤ sJ (fun i => if i = c then 0 else 1) X.length := sJ_le (fun i hi => by
    by_cases e : i = c
    · rw [if_neg (fun z => hk (by rw [← e]; exact z.1))]
      exact Nat.zero_le _
    · rw [if_neg e]
      split <;> omega)
  have h2 := sJ_upd (f := fun i => if i = c then 0 else 1) (g := fun _ => 1) (k := c) (n := X.length) hc (fun i hi => if_neg hi)
  rw [sJ_1, if_pos rfl] at h2
  omega
theorem cnM_lt {X : List Nat} {k : Nat → Nat} {m0 m1 c : Nat} (hs : ∀ y, bt m0 y → bt m1 y) (hc : c < X.length) (hk : k c = c) (h0 : ¬ bt m0 c) (h1 : bt m1 c) : cnM X k m0 + 1 ≤ cnM X k m1 := by
  refine sJ_lt (j := c) (fun i hi => ?_) hc ?_
  · by_cases e : k i = i ∧ m0 >>> i % 2 = 1
    · rw [if_pos e, if_pos ⟨e.1, hs i e.2⟩]
      exact Nat.le_refl _
    · rw [if_neg e]
      exact Nat.zero_le _
  · rw [if_neg (fun z => h0 z.2), if_pos ⟨hk, h1⟩]
    exact Nat.zero_lt_one
/-- among the classes that aren't clear is one whose parts all are -/
theorem clr_ex {X : List Nat} {k : Nat → Nat} {hd : Nat → Option Nat} (H : HDP X k hd) {rk : Nat → Nat} (r1 : ∀ p q, p < X.length → q < X.length → k p = k q → rk p = rk q) (r2 : ∀ p, p < X.length → ∀ j, j < ga X p → rk (ko X p j) < rk p) (hko : ∀ p, p < X.length → ∀ j, j < ga X p → ko X p j < X.length) {m : Nat} : ∀ (n p : Nat), rk p < n → p < X.length → ¬ bt m (k p) → ∃ p', p' < X.length ∧ ¬ bt m (k p') ∧ clr X k hd m (k p') := by
  intro n
  induction n with
  | zero => intro p h; omega
  | succ n ih =>
    intro p h hp hb
    by_cases c : clr X k hd m (k p)
    · exact ⟨p, hp, hb, c⟩
    · unfold clr at c
      obtain ⟨a, c⟩ := Classical.not_forall.mp c
      obtain ⟨ea, c⟩ := Classical.not_imp.mp c
      obtain ⟨j, c⟩ := Classical.not_forall.mp c
      obtain ⟨hj, c⟩ := Classical.not_imp.mp c
      obtain ⟨x1, x2, x3⟩ := H.2.2.1 p hp a ea
      have := r2 a x1 j hj
      have := r1 a p x1 hp x3
      exact ih (ko X a j) (by omega) (hko a x1 j hj) c
/-- a place for a name, or none -/
def PFO (X : List Nat) (k : Nat → Nat) (hd : Nat → Option Nat) (x : Nat) (oo : Option Nat) : Prop := (oo = none ∧ (x ∉ X ∨ (x ∈ X ∧ hd (k (fpN x X)) = none ∧ ∀ z, z < X.length → k z = k (fpN x X) → x ≤ gl X z))) ∨
  ∃ q, oo = some q ∧ x ∈ X ∧ q < X.length ∧ k q = k (fpN x X) ∧ (hd (k (fpN x X)) = some q ∨ (hd (k (fpN x X)) = none ∧ gl X q < x ∧ ∀ z, z < X.length → k z = k (fpN x X) → gl X q ≤ gl X z))
theorem fpN_at {x : Nat} : ∀ {ys : List Nat}, x ∈ ys → ys.getD (fpN x ys) 0 = x
  | [], h => by simp at h
  | y :: r, h => by
    by_cases c : y = x
    · subst c
      rw [fpN_eq]
      rfl
    · rw [fpN_ne c]
      exact fpN_at (ys := r) ((List.mem_cons.mp h).resolve_left (fun z => c z.symm))
theorem PFO.sk {X : List Nat} {n1 : Nat} (hX : BX X) {k : Nat → Nat} {hd : Nat → Option Nat} (H : HDP X k hd) (G : GdK X n1 k) {S : SS} (h8 : ∀ x, 8 ≤ x → S x = none) (hP : ∀ x, x < 8 → PFO X k hd x (S x)) : SKP X k S := by
  have fp : ∀ x, x ∈ X → fpN x X < X.length ∧ gl X (fpN x X) = x := fun x hx => ⟨fpN_mem hx, fpN_at hx⟩
  have noh : ∀ p, p < X.length → hd (k p) = none → ∀ z, z < X.length → k z = k p → gl X z < 10 := fun p hp hn z hz e => by
    rcases Nat.lt_or_ge (gl X z) 10 with c | c
    · exact c
    · exact absurd (by rw [e]; exact hn) (H.2.2.2 z hz c)
  constructor
  · intro x q e
    have hx8 : x < 8 := by
      rcases Nat.lt_or_ge x 8 with c | c
      · exact c
      · rw [h8 x c] at e
        cases e
    rcases hP x hx8 with ⟨z, -⟩ | ⟨q2, z, m1, m2, m3, m4⟩
    · rw [z] at e
      cases e
    · rw [z] at e
      cases e
      obtain ⟨f1, f2⟩ := fp x m1
      refine ⟨hx8, m2, fpN x X, f1, f2, m3.symm, ?_⟩
      rcases m4 with m4 | ⟨m4, m5, m6⟩
      · exact Or.inl (H.2.2.1 _ f1 q m4).2.1
      · exact Or.inr ⟨m5, fun z hz ez => ⟨m6 z hz (by rw [ez, m3]), noh _ f1 m4 z hz (by rw [ez, m3])⟩⟩
  · intro p hp hg es z hz ez
    have hm : gl X p ∈ X := List.mem_of_getElem? (gl_get hp)
    have hp8 := gl_8 hX hp hg
    obtain ⟨f1, f2⟩ := fp _ hm
    have kp : k p = k (fpN (gl X p) X) := G.2.1 p _ hp f1 (by rw [name_sub hX hp hg, name_sub hX f1 (by omega), f2])
    rcases hP _ hp8 with ⟨-, w | ⟨-, w1, w2⟩⟩ | ⟨q2, w, -⟩
    · exact absurd hm w
    · exact ⟨w2 z hz (by rw [ez, kp]), noh _ f1 w1 z hz (by rw [ez, kp])⟩
    · rw [es] at w
      cases w
section S22
variable {la : Launch} {D : va_G} {cA : Nat → ClassId} {B0 pa : Nat} {B Q P : Nat → Nat} {F : Nat → TC} {X1 : List Nat} {f1 f2 f3 : Nat → Int32} {ps : PL2}
set_option maxHeartbeats 64000000 in
theorem s1_isNoneInItself (h : AH) {n1 : Nat} {k : Nat → Nat} {hd : Nat → Option Nat} (T : CTG B Q P h F X1 (nK k) (pK hd) f3 ps) (hY : BY X1 n1) (H : HDP X1 k hd) (G : GdK X1 n1 k) : CT la D cA B0 pa yX1_isNoneInItself cX1_isNoneInItself 7 (some .boolean) (rmD 3 0 0) [.ref (P 5)] h (fun v h' => (∃ b : Bool, v = some (.int (bI b)) ∧ (b = true ↔ AcK X1 k)) ∧ h' = h) := by
  refine CT_of (by decide +kernel) (Nat.le_of_ble_eq_true rfl) ?_
  intro p e s m args below meth c X E hr hlk hnm
  have dk : ∀ {pc : Nat} {q : Instr × Nat}, lkd DX1_isNoneInItself pc = some q → decode cX1_isNoneInItself pc = .ok q := lkd_ok DX1_isNoneInItself_ok
  have hX := hY.1
  have hX32 := hX.2.2
  have hn1 := hY.2.2.2.1
  have hn0 := hY.2.1
  obtain ⟨t1, t2, t3, ⟨row, r1, r2, r3⟩, t5, t6, t7⟩ := id T
  have hkb := H.1
  have kb : ∀ p, p < X1.length → k p < 32 := fun p hp => hkb p (by omega)
  have out : ∀ (u : Nat), u ≤ 32 → (u = 0 ↔ AcK X1 k) → ∀ l : List (Nat × Value), lsel l [4] = [(4, vI u)] → WR p la e (rmD 3 0 0) s m args below meth c D cA B0 7 (fun v h' => (∃ b : Bool, v = some (.int (bI b)) ∧ (b = true ↔ AcK X1 k)) ∧ h' = h) 90 l [] h 0 0 := by
    intro u hu32 hu l hl
    refine WS.sel [4] hl ?_
    refine fst1_ok X (dk rfl) rfl ?_
    by_cases hz : u = 0
    · rw [hz]
      refine br_ok X (dk rfl) rfl (show ((92 : Nat) : Int) + 7 = ((99 : Nat) : Int) from rfl) (fun q => absurd (show nI 0 = 0 by decide) q) (fun _ => ?_)
      refine fst1_ok X (dk rfl) rfl ?_
      refine br_ok X (dk rfl) rfl (show ((96 : Nat) : Int) + 4 = ((100 : Nat) : Int) from rfl) (fun _ => ?_) (fun q => absurd trivial q)
      exact reti_ok X hr hlk (bI_n true) (dk rfl) (⟨⟨true, rfl, ⟨fun _ => hu.mp hz, fun _ => rfl⟩⟩, rfl⟩) (Nat.le_of_ble_eq_true rfl) (Nat.le_of_ble_eq_true rfl)
    · refine br_ok X (dk rfl) rfl (show ((92 : Nat) : Int) + 7 = ((99 : Nat) : Int) from rfl) (fun _ => ?_) (fun q => absurd (fun z => hz (nI_inj (b := 0) (by omega) (by omega) z)) q)
      refine fst1_ok X (dk rfl) rfl ?_
      exact reti_ok X hr hlk (bI_n false) (dk rfl) (⟨⟨false, rfl, ⟨fun z => (by cases z), fun z => absurd (hu.mpr z) hz⟩⟩, rfl⟩) (Nat.le_of_ble_eq_true rfl) (Nat.le_of_ble_eq_true rfl)
  have outer : ∀ (d r mk u : Nat), d + r = 32 → mk < 2 ^ 32 → u ≤ 32 → CLI X1 k mk → (u = 0 → ∀ p, p < X1.length → bt mk (k p)) → (AcK X1 k → u = 0 ∨ r ≤ cnM X1 k mk) → ∀ l : List (Nat × Value), lsel l [5, 4, 3, 1, 0] = [(5, vI r), (4, vI u), (3, vI X1.length), (1, .long (nL mk)), (0, .ref (P 5))] → WR p la e (rmD 3 0 0) s m args below meth c D cA B0 7 (fun v h' => (∃ b : Bool, v = some (.int (bI b)) ∧ (b = true ↔ AcK X1 k)) ∧ h' = h) 21 l [] h 0 0 := by
    intro d
    induction d with
    | zero =>
      intro r mk u hdr hm hu C h0 hA l hl
      have hr : r = 32 := by omega
      subst hr
      have hle := cnM_le (X := X1) G.1 hn1 hn0 mk
      refine WS.sel [5, 4, 3, 1, 0] hl ?_
      iterate 2 refine fst1_ok X (dk rfl) rfl ?_
      refine br_ok X (dk rfl) rfl (show ((25 : Nat) : Int) + 65 = ((90 : Nat) : Int) from rfl) (fun _ => ?_) (fun q => absurd (by rw [nI_32']; exact Int32.le_refl _) q)
      exact out u hu ⟨fun z => C.ac (h0 z), fun z => (hA z).elim id (fun w => by omega)⟩ _ rfl
    | succ d ih =>
      intro r mk0 u0 hdr hm0 hu0 C0 h00 hA0 l hl
      refine WS.sel [5, 4, 3, 1, 0] hl ?_
      iterate 2 refine fst1_ok X (dk rfl) rfl ?_
      refine br_ok X (dk rfl) rfl (show ((25 : Nat) : Int) + 65 = ((90 : Nat) : Int) from rfl) (fun q => absurd q (by rw [nI_32']; exact nI_ge (by omega) (by omega))) (fun _ => ?_)
      refine fst1_ok X (dk rfl) rfl ?_
      rcases Nat.eq_zero_or_pos u0 with hz | hz
      · subst hz
        refine br_ok X (dk rfl) rfl (show ((30 : Nat) : Int) + 60 = ((90 : Nat) : Int) from rfl) (fun _ => ?_) (fun q => absurd (show nI 0 ≤ 0 by decide) q)
        exact out 0 (Nat.zero_le _) ⟨fun z => C0.ac (h00 z), fun _ => rfl⟩ _ rfl
      · refine br_ok X (dk rfl) rfl (show ((30 : Nat) : Int) + 60 = ((90 : Nat) : Int) from rfl) (fun q => absurd q (nI_nle hz (by omega))) (fun _ => ?_)
        have fr : Value.int (nI r + Int32.ofInt 1) = vI (r + 1) := congrArg Value.int (by rw [nI_1', nI_add])
        have inner : ∀ (w i mk u : Nat), w + i = X1.length → mk < 2 ^ 32 → u ≤ i → (∀ y, bt mk0 y → bt mk y) → CLI X1 k mk → (u = 0 → ∀ p, p < i → bt mk (k p)) → (∀ p, p < i → clr X1 k hd mk0 (k p) → bt mk (k p)) → ((∀ p, p < X1.length → clr X1 k hd mk0 (k p)) → u = 0) → ∀ l : List (Nat × Value), lsel l [6, 5, 4, 3, 1, 0] = [(6, vI i), (5, vI r), (4, vI u), (3, vI X1.length), (1, .long (nL mk)), (0, .ref (P 5))] → WR p la e (rmD 3 0 0) s m args below meth c D cA B0 7 (fun v h' => (∃ b : Bool, v = some (.int (bI b)) ∧ (b = true ↔ AcK X1 k)) ∧ h' = h) 39 l [] h 0 0 := by
          intro w
          induction w with
          | zero =>
            intro i mk u hi hm hui hsub C hA hB hC l hl
            have hin : i = X1.length := by omega
            subst hin
            refine WS.sel [6, 5, 4, 3, 1, 0] hl ?_
            iterate 2 refine fst1_ok X (dk rfl) rfl ?_
            refine br_ok X (dk rfl) rfl (show ((42 : Nat) : Int) + 42 = ((84 : Nat) : Int) from rfl) (fun _ => ?_) (fun q => absurd (Int32.le_refl _) q)
            refine fst1_ok X (dk rfl) rfl ?_
            refine br_ok X (dk rfl) rfl (show ((87 : Nat) : Int) + (-66) = ((21 : Nat) : Int) from rfl) (fun _ => ?_) (fun q => absurd trivial q)
            refine WS.sel (l' := [(5, vI (r + 1)), (4, vI u), (3, vI X1.length), (1, .long (nL mk)), (0, .ref (P 5))]) [5, 4, 3, 1, 0] (by rw [← fr]; rfl) ?_
            refine ih (r + 1) mk u (by omega) hm (by omega) C hA (fun ac => ?_) _ rfl
            by_cases hall : ∀ p, p < X1.length → bt mk0 (k p)
            · refine Or.inl (hC (fun p hp a ea j hj => ?_))
              obtain ⟨x1, x2, x3⟩ := H.2.2.1 p hp a ea
              exact hall _ (ko_mono hX x1 hj).2.2.2.2
            · refine Or.inr ?_
              obtain ⟨p, cc⟩ := Classical.not_forall.mp hall
              obtain ⟨hp, cc⟩ := Classical.not_imp.mp cc
              obtain ⟨rk, q1, q2⟩ := ac
              obtain ⟨p', g1, g2, g3⟩ := clr_ex H q1 q2 (fun p hp j hj => (ko_mono hX hp hj).2.2.2.2) (m := mk0) (rk p + 1) p (Nat.lt_succ_self _) hp cc
              obtain ⟨y1, y2⟩ := H.2.1 p' g1
              have g4 := cnM_lt (X := X1) hsub y1 y2 g2 (hB p' g1 g3)
              have := (hA0 ⟨rk, q1, q2⟩).resolve_left (by omega)
              omega
          | succ w ihw =>
            intro i mk u hi hm hui hsub C hA hB hC l hl
            have fi : Value.int (nI i + Int32.ofInt 1) = vI (i + 1) := congrArg Value.int (by rw [nI_1', nI_add])
            have hil : i < X1.length := by omega
            have hki := kb i hil
            refine WS.sel [6, 5, 4, 3, 1, 0] hl ?_
            iterate 2 refine fst1_ok X (dk rfl) rfl ?_
            refine br_ok X (dk rfl) rfl (show ((42 : Nat) : Int) + 42 = ((84 : Nat) : Int) from rfl) (fun q => absurd q (nI_ge (by omega) (by omega))) (fun _ => ?_)
            iterate 2 refine fst1_ok X (dk rfl) rfl ?_
            refine getf_ok X flX1_20 (dk rfl) t3 rfl ?_
            refine fst1_ok X (dk rfl) rfl ?_
            refine ald7v_ok X (dk rfl) r1 (nI_pos (by omega)) (by rw [nI_clamp (by omega)]; exact r3 i (by omega)) ?_
            rw [show nK k i = nI (k i) from rfl]
            refine fst1_ok X (dk rfl) rfl ?_
            refine callVR_ok (ci := 3) (T := TX1) (N := 5) (av := [vI (k i), .long (nL mk)]) (r := []) X E (s1_isClear h T hX (z := k i) hki hkb (fun a ea => (H.2.2.1 i hil a ea).1)) lkX1_isClear mlX1_107 lmX1_isClear lpX1_isClear ⟨Nat.le_of_ble_eq_true rfl, Nat.le_of_ble_eq_true rfl⟩ ⟨Nat.le_of_ble_eq_true rfl, Nat.le_of_ble_eq_true rfl⟩ rfl ⟨_, t3⟩ (Nat.le_of_ble_eq_true rfl) (dk rfl) ?_
            rintro _ ⟨b, rfl, hb⟩
            cases b with
            | true =>
              refine br_ok X (dk rfl) rfl (show ((57 : Nat) : Int) + 18 = ((75 : Nat) : Int) from rfl) (fun q => absurd q bI_t) (fun _ => ?_)
              iterate 3 refine fst1_ok X (dk rfl) rfl ?_
              refine getf_ok X flX1_20 (dk rfl) t3 rfl ?_
              refine fst1_ok X (dk rfl) rfl ?_
              refine ald7v_ok X (dk rfl) r1 (nI_pos (by omega)) (by rw [nI_clamp (by omega)]; exact r3 i (by omega)) ?_
              rw [show nK k i = nI (k i) from rfl]
              iterate 3 refine fst1_ok X (dk rfl) rfl ?_
              rw [show (nL mk ||| (Int64.ofNat ((1 : Fin 2) : Nat) <<< ((nI (k i)).toInt64 &&& 63))) = nL (mk ||| 2 ^ k i) by rw [show Int64.ofNat ((1 : Fin 2) : Nat) = nL 1 from rfl, nL_shl _ hki, nL_or]]
              refine br_ok X (dk rfl) rfl (show ((72 : Nat) : Int) + 6 = ((78 : Nat) : Int) from rfl) (fun _ => ?_) (fun q => absurd trivial q)
              refine fst1_ok X (dk rfl) rfl ?_
              refine br_ok X (dk rfl) rfl (show ((81 : Nat) : Int) + (-42) = ((39 : Nat) : Int) from rfl) (fun _ => ?_) (fun q => absurd trivial q)
              refine WS.sel (l' := [(6, vI (i + 1)), (5, vI r), (4, vI u), (3, vI X1.length), (1, .long (nL (mk ||| 2 ^ k i))), (0, .ref (P 5))]) [6, 5, 4, 3, 1, 0] (by rw [← fi]; rfl) ?_
              have hclr : clr X1 k hd mk (k i) := hb.mp rfl
              exact ihw (i + 1) (mk ||| 2 ^ k i) u (by omega) (Nat.or_lt_two_pow hm (Nat.pow_lt_pow_right (by decide) hki)) (by omega) (fun y hy => bt_st.mpr (Or.inl (hsub y hy))) (C.add H G hil hclr) (fun z p hp => by
                rcases Nat.lt_or_ge p i with c1 | c1
                · exact bt_st.mpr (Or.inl (hA z p c1))
                · rw [show p = i by omega]
                  exact bt_st.mpr (Or.inr rfl)) (fun p hp z => by
                rcases Nat.lt_or_ge p i with c1 | c1
                · exact bt_st.mpr (Or.inl (hB p c1 z))
                · rw [show p = i by omega]
                  exact bt_st.mpr (Or.inr rfl)) hC _ rfl
            | false =>
              have fu : Value.int (nI u + Int32.ofInt 1) = vI (u + 1) := congrArg Value.int (by rw [nI_1', nI_add])
              refine br_ok X (dk rfl) rfl (show ((57 : Nat) : Int) + 18 = ((75 : Nat) : Int) from rfl) (fun _ => ?_) (fun q => absurd bI_f' q)
              refine fst1_ok X (dk rfl) rfl ?_
              refine fst1_ok X (dk rfl) rfl ?_
              refine br_ok X (dk rfl) rfl (show ((81 : Nat) : Int) + (-42) = ((39 : Nat) : Int) from rfl) (fun _ => ?_) (fun q => absurd trivial q)
              refine WS.sel (l' := [(6, vI (i + 1)), (5, vI r), (4, vI (u + 1)), (3, vI X1.length), (1, .long (nL mk)), (0, .ref (P 5))]) [6, 5, 4, 3, 1, 0] (by rw [← fi, ← fu]; rfl) ?_
              have hno : ¬ clr X1 k hd mk (k i) := fun z => by have := hb.mpr z; cases this
              have hno0 : ¬ clr X1 k hd mk0 (k i) := fun z => hno (fun a ea j hj => hsub _ (z a ea j hj))
              exact ihw (i + 1) mk (u + 1) (by omega) hm (by omega) hsub C (fun z => by omega) (fun p hp z => by
                rcases Nat.lt_or_ge p i with c1 | c1
                · exact hB p c1 z
                · rw [show p = i by omega] at z
                  exact absurd z hno0) (fun z => absurd (z i hil) hno0) _ rfl
        iterate 4 refine fst1_ok X (dk rfl) rfl ?_
        exact inner X1.length 0 mk0 0 (Nat.add_zero _) hm0 (Nat.le_refl _) (fun y hy => hy) C0 (fun _ p hp => absurd hp (Nat.not_lt_zero p)) (fun p hp => absurd hp (Nat.not_lt_zero p)) (fun _ => rfl) _ rfl
  iterate 3 refine fst1_ok X (dk rfl) rfl ?_
  refine getf_ok X flX1_16 (dk rfl) t3 rfl ?_
  refine callVR_ok (ci := 7) (T := TX5) (N := 3) (av := []) (r := []) X E (s5_length h t1 (i := 51) (by omega)) lkX5_length mlX1_55 lmX5_length lpX5_length ⟨Nat.le_of_ble_eq_true rfl, Nat.le_of_ble_eq_true rfl⟩ ⟨Nat.le_of_ble_eq_true rfl, Nat.le_of_ble_eq_true rfl⟩ rfl ⟨_, (t1 51 (by omega)).2.1⟩ (Nat.le_of_ble_eq_true rfl) (dk rfl) ?_
  rintro _ rfl
  rw [t2.len]
  refine fst1_ok X (dk rfl) rfl ?_
  rw [nI_32']
  refine mmin7_ok X hX32 mlX1_101 (dk rfl) (by decide) (Nat.le_of_ble_eq_true rfl) (Nat.le_of_ble_eq_true rfl) (Nat.le_of_ble_eq_true rfl) ?_
  iterate 5 refine fst1_ok X (dk rfl) rfl ?_
  refine outer 32 0 0 X1.length rfl (by decide) hX32 ⟨fun _ => 0, 1, fun _ _ => Nat.zero_lt_one, fun p hp h => ?_⟩ (fun z => by omega) (fun _ => Or.inr (Nat.zero_le _)) _ rfl
  unfold bt at h
  rw [Nat.zero_shiftRight] at h
  cases h
set_option maxHeartbeats 32000000 in
theorem s1_placeFor (h : AH) {k : Nat → Nat} {hd : Nat → Option Nat} (T : CTG B Q P h F X1 (nK k) (pK hd) f3 ps) (hX : BX X1) (H : HDP X1 k hd) {x : Nat} (hx : x < 8) : CT la D cA B0 pa yX1_placeFor cX1_placeFor 6 (some .int) (rmD 2 0 0) [.ref (P 5), vI x] h (fun v h' => (∃ oo : Option Nat, v = some (.int (pI oo)) ∧ PFO X1 k hd x oo) ∧ h' = h) := by
  refine CT_of (by decide +kernel) (Nat.le_of_ble_eq_true rfl) ?_
  intro p e s m args below meth c X E hr hlk hnm
  have dk : ∀ {pc : Nat} {q : Instr × Nat}, lkd DX1_placeFor pc = some q → decode cX1_placeFor pc = .ok q := lkd_ok DX1_placeFor_ok
  have hX32 := hX.2.2
  obtain ⟨t1, t2, t3, ⟨row, r1, r2, r3⟩, t5, t6, t7⟩ := id T
  have hkb := H.1
  have ecs : ∀ z, hd z = none ∨ ∃ a, hd z = some a := fun z => by cases hd z with | none => exact Or.inl rfl | some a => exact Or.inr ⟨a, rfl⟩
  refine fst1_ok X (dk rfl) rfl ?_
  refine getf_ok X flX1_16 (dk rfl) t3 rfl ?_
  refine fst1_ok X (dk rfl) rfl ?_
  refine callVR_ok (ci := 7) (T := TX5) (N := 3) (av := [vI x]) (r := []) X E (s5_firstPlaceOf h t1 (i := 51) (by omega) t2 (x := x) (by omega)) lkX5_firstPlaceOf mlX1_117 lmX5_firstPlaceOf lpX5_firstPlaceOf ⟨Nat.le_of_ble_eq_true rfl, Nat.le_of_ble_eq_true rfl⟩ ⟨Nat.le_of_ble_eq_true rfl, Nat.le_of_ble_eq_true rfl⟩ rfl ⟨_, (t1 51 (by omega)).2.1⟩ (Nat.le_of_ble_eq_true rfl) (dk rfl) ?_
  rintro _ rfl
  by_cases hm : x ∈ X1
  · have f1 := fpN_mem hm
    have f2 : gl X1 (fpN x X1) = x := fpN_at hm
    rw [if_pos f1]
    iterate 3 refine fst1_ok X (dk rfl) rfl ?_
    refine callVR_ok (ci := 3) (T := TX1) (N := 5) (av := [vI (fpN x X1)]) (r := []) X E (s1_classAt h T (z := fpN x X1) (by omega)) lkX1_classAt mlX1_68 lmX1_classAt lpX1_classAt ⟨Nat.le_of_ble_eq_true rfl, Nat.le_of_ble_eq_true rfl⟩ ⟨Nat.le_of_ble_eq_true rfl, Nat.le_of_ble_eq_true rfl⟩ rfl ⟨_, t3⟩ (Nat.le_of_ble_eq_true rfl) (dk rfl) ?_
    rintro _ rfl
    rw [show nK k (fpN x X1) = nI (k (fpN x X1)) from rfl]
    have hkc := hkb (fpN x X1) (by omega)
    iterate 3 refine fst1_ok X (dk rfl) rfl ?_
    refine br_ok X (dk rfl) rfl (show ((17 : Nat) : Int) + 12 = ((29 : Nat) : Int) from rfl) (fun q => absurd q (nI_m1 (by omega))) (fun _ => ?_)
    iterate 2 refine fst1_ok X (dk rfl) rfl ?_
    refine callVR_ok (ci := 3) (T := TX1) (N := 5) (av := [vI (k (fpN x X1))]) (r := []) X E (s1_headAt h T (z := k (fpN x X1)) hkc) lkX1_headAt mlX1_94 lmX1_headAt lpX1_headAt ⟨Nat.le_of_ble_eq_true rfl, Nat.le_of_ble_eq_true rfl⟩ ⟨Nat.le_of_ble_eq_true rfl, Nat.le_of_ble_eq_true rfl⟩ rfl ⟨_, t3⟩ (Nat.le_of_ble_eq_true rfl) (dk rfl) ?_
    rintro _ rfl
    refine fst1_ok X (dk rfl) rfl ?_
    rcases ecs (k (fpN x X1)) with el | ⟨a, el⟩
    · refine br_ok X (dk rfl) rfl (show ((26 : Nat) : Int) + 9 = ((35 : Nat) : Int) from rfl) (fun _ => ?_) (fun q => absurd (show pI (hd (k (fpN x X1))) = Int32.ofInt (-1) by rw [el]; rfl) q)
      have loop : ∀ (u i z : Nat), u + i = X1.length → z < X1.length → k z = k (fpN x X1) → gl X1 z ≤ x → (∀ y, y < i → k y = k (fpN x X1) → gl X1 z ≤ gl X1 y) → ∀ l : List (Nat × Value), lsel l [5, 4, 3, 1, 0] = [(5, vI i), (4, vI z), (3, vI (k (fpN x X1))), (1, vI x), (0, .ref (P 5))] → WR p la e (rmD 2 0 0) s m args below meth c D cA B0 6 (fun v h' => (∃ oo : Option Nat, v = some (.int (pI oo)) ∧ PFO X1 k hd x oo) ∧ h' = h) 41 l [] h 0 0 := by
        intro u
        induction u with
        | zero =>
          intro i z hi hz ez hzx hall l hl
          have hin : i = X1.length := by omega
          subst hin
          have hgz := gl_get hz
          have ltz := (gl_ok hX hz).lt
          refine WS.sel [5, 4, 3, 1, 0] hl ?_
          iterate 2 refine fst1_ok X (dk rfl) rfl ?_
          refine getf_ok X flX1_16 (dk rfl) t3 rfl ?_
          refine callVR_ok (ci := 7) (T := TX5) (N := 3) (av := []) (r := [vI X1.length]) X E (s5_length h t1 (i := 51) (by omega)) lkX5_length mlX1_55 lmX5_length lpX5_length ⟨Nat.le_of_ble_eq_true rfl, Nat.le_of_ble_eq_true rfl⟩ ⟨Nat.le_of_ble_eq_true rfl, Nat.le_of_ble_eq_true rfl⟩ rfl ⟨_, (t1 51 (by omega)).2.1⟩ (Nat.le_of_ble_eq_true rfl) (dk rfl) ?_
          rintro _ rfl
          rw [t2.len]
          refine br_ok X (dk rfl) rfl (show ((50 : Nat) : Int) + 52 = ((102 : Nat) : Int) from rfl) (fun _ => ?_) (fun q => absurd (Int32.le_refl _) q)
          refine fst1_ok X (dk rfl) rfl ?_
          refine getf_ok X flX1_16 (dk rfl) t3 rfl ?_
          refine fst1_ok X (dk rfl) rfl ?_
          refine callVR_ok (ci := 7) (T := TX5) (N := 3) (av := [vI z]) (r := []) X E (s5_letterAt h t1 (i := 51) (by omega) (nI z)) lkX5_letterAt mlX1_45 lmX5_letterAt lpX5_letterAt ⟨Nat.le_of_ble_eq_true rfl, Nat.le_of_ble_eq_true rfl⟩ ⟨Nat.le_of_ble_eq_true rfl, Nat.le_of_ble_eq_true rfl⟩ rfl ⟨_, (t1 51 (by omega)).2.1⟩ (Nat.le_of_ble_eq_true rfl) (dk rfl) ?_
          rintro _ rfl
          rw [t2.lt hgz (by omega)]
          refine fst1_ok X (dk rfl) rfl ?_
          by_cases hzz : gl X1 z = x
          · refine br_ok X (dk rfl) rfl (show ((112 : Nat) : Int) + 7 = ((119 : Nat) : Int) from rfl) (fun q => absurd (by rw [hzz]) q) (fun _ => ?_)
            refine fst1_ok X (dk rfl) rfl ?_
            refine br_ok X (dk rfl) rfl (show ((116 : Nat) : Int) + 5 = ((121 : Nat) : Int) from rfl) (fun _ => ?_) (fun q => absurd trivial q)
            exact reti_ok X hr hlk rfl (dk rfl) (⟨⟨none, rfl, Or.inl ⟨rfl, Or.inr ⟨hm, el, fun y hy ey => by rw [← hzz]; exact hall y hy ey⟩⟩⟩, rfl⟩) (Nat.le_of_ble_eq_true rfl) (Nat.le_of_ble_eq_true rfl)
          · refine br_ok X (dk rfl) rfl (show ((112 : Nat) : Int) + 7 = ((119 : Nat) : Int) from rfl) (fun _ => ?_) (fun q => absurd (fun w => hzz (nI_inj (by omega) (by omega) w)) q)
            refine fst1_ok X (dk rfl) rfl ?_
            exact reti_ok X hr hlk rfl (dk rfl) (⟨⟨some z, rfl, Or.inr ⟨z, rfl, hm, hz, ez, Or.inr ⟨el, by omega, hall⟩⟩⟩, rfl⟩) (Nat.le_of_ble_eq_true rfl) (Nat.le_of_ble_eq_true rfl)
        | succ u ih =>
          intro i z hi hz ez hzx hall l hl
          have hil : i < X1.length := by omega
          have hgz := gl_get hz
          have ltz := (gl_ok hX hz).lt
          have hgi := gl_get hil
          have lti := (gl_ok hX hil).lt
          have hki := hkb i (by omega)
          have fi : Value.int (nI i + Int32.ofInt 1) = vI (i + 1) := congrArg Value.int (by rw [nI_1', nI_add])
          have nxt : ∀ z2 : Nat, z2 < X1.length → k z2 = k (fpN x X1) → gl X1 z2 ≤ x → (∀ y, y < i + 1 → k y = k (fpN x X1) → gl X1 z2 ≤ gl X1 y) → ∀ l : List (Nat × Value), lsel l [5, 4, 3, 1, 0] = [(5, vI i), (4, vI z2), (3, vI (k (fpN x X1))), (1, vI x), (0, .ref (P 5))] → WR p la e (rmD 2 0 0) s m args below meth c D cA B0 6 (fun v h' => (∃ oo : Option Nat, v = some (.int (pI oo)) ∧ PFO X1 k hd x oo) ∧ h' = h) 96 l [] h 0 0 := by
            intro z2 k1 k2 k3 k4 l hl
            refine WS.sel [5, 4, 3, 1, 0] hl ?_
            refine fst1_ok X (dk rfl) rfl ?_
            refine br_ok X (dk rfl) rfl (show ((99 : Nat) : Int) + (-58) = ((41 : Nat) : Int) from rfl) (fun _ => ?_) (fun q => absurd trivial q)
            refine WS.sel (l' := [(5, vI (i + 1)), (4, vI z2), (3, vI (k (fpN x X1))), (1, vI x), (0, .ref (P 5))]) [5, 4, 3, 1, 0] (by rw [← fi]; rfl) ?_
            exact ih (i + 1) z2 (by omega) k1 k2 k3 k4 _ rfl
          refine WS.sel [5, 4, 3, 1, 0] hl ?_
          iterate 2 refine fst1_ok X (dk rfl) rfl ?_
          refine getf_ok X flX1_16 (dk rfl) t3 rfl ?_
          refine callVR_ok (ci := 7) (T := TX5) (N := 3) (av := []) (r := [vI i]) X E (s5_length h t1 (i := 51) (by omega)) lkX5_length mlX1_55 lmX5_length lpX5_length ⟨Nat.le_of_ble_eq_true rfl, Nat.le_of_ble_eq_true rfl⟩ ⟨Nat.le_of_ble_eq_true rfl, Nat.le_of_ble_eq_true rfl⟩ rfl ⟨_, (t1 51 (by omega)).2.1⟩ (Nat.le_of_ble_eq_true rfl) (dk rfl) ?_
          rintro _ rfl
          rw [t2.len]
          refine br_ok X (dk rfl) rfl (show ((50 : Nat) : Int) + 52 = ((102 : Nat) : Int) from rfl) (fun q => absurd q (nI_ge (by omega) (by omega))) (fun _ => ?_)
          iterate 2 refine fst1_ok X (dk rfl) rfl ?_
          refine br_ok X (dk rfl) rfl (show ((57 : Nat) : Int) + 45 = ((102 : Nat) : Int) from rfl) (fun q => absurd q (by rw [nI_32']; exact nI_ge (by omega) (by omega))) (fun _ => ?_)
          refine fst1_ok X (dk rfl) rfl ?_
          refine getf_ok X flX1_20 (dk rfl) t3 rfl ?_
          refine fst1_ok X (dk rfl) rfl ?_
          refine ald7v_ok X (dk rfl) r1 (nI_pos (by omega)) (by rw [nI_clamp (by omega)]; exact r3 i (by omega)) ?_
          rw [show nK k i = nI (k i) from rfl]
          refine fst1_ok X (dk rfl) rfl ?_
          by_cases ek : k i = k (fpN x X1)
          · refine br_ok X (dk rfl) rfl (show ((68 : Nat) : Int) + 28 = ((96 : Nat) : Int) from rfl) (fun q => absurd (by rw [ek]) q) (fun _ => ?_)
            refine fst1_ok X (dk rfl) rfl ?_
            refine getf_ok X flX1_16 (dk rfl) t3 rfl ?_
            refine fst1_ok X (dk rfl) rfl ?_
            refine callVR_ok (ci := 7) (T := TX5) (N := 3) (av := [vI i]) (r := []) X E (s5_letterAt h t1 (i := 51) (by omega) (nI i)) lkX5_letterAt mlX1_45 lmX5_letterAt lpX5_letterAt ⟨Nat.le_of_ble_eq_true rfl, Nat.le_of_ble_eq_true rfl⟩ ⟨Nat.le_of_ble_eq_true rfl, Nat.le_of_ble_eq_true rfl⟩ rfl ⟨_, (t1 51 (by omega)).2.1⟩ (Nat.le_of_ble_eq_true rfl) (dk rfl) ?_
            rintro _ rfl
            rw [t2.lt hgi (by omega)]
            refine fst1_ok X (dk rfl) rfl ?_
            refine getf_ok X flX1_16 (dk rfl) t3 rfl ?_
            refine fst1_ok X (dk rfl) rfl ?_
            refine callVR_ok (ci := 7) (T := TX5) (N := 3) (av := [vI z]) (r := [vI (gl X1 i)]) X E (s5_letterAt h t1 (i := 51) (by omega) (nI z)) lkX5_letterAt mlX1_45 lmX5_letterAt lpX5_letterAt ⟨Nat.le_of_ble_eq_true rfl, Nat.le_of_ble_eq_true rfl⟩ ⟨Nat.le_of_ble_eq_true rfl, Nat.le_of_ble_eq_true rfl⟩ rfl ⟨_, (t1 51 (by omega)).2.1⟩ (Nat.le_of_ble_eq_true rfl) (dk rfl) ?_
            rintro _ rfl
            rw [t2.lt hgz (by omega)]
            by_cases hlt : gl X1 i < gl X1 z
            · refine br_ok X (dk rfl) rfl (show ((89 : Nat) : Int) + 7 = ((96 : Nat) : Int) from rfl) (fun q => absurd q (Int32.not_le.mpr ((nI_ltI (by omega) (by omega)).mpr hlt))) (fun _ => ?_)
              iterate 2 refine fst1_ok X (dk rfl) rfl ?_
              exact nxt i hil ek (by omega) (fun y hy ey => by
                rcases Nat.lt_or_ge y i with c1 | c1
                · have := hall y c1 ey
                  omega
                · rw [show y = i by omega]
                  exact Nat.le_refl _) _ rfl
            · refine br_ok X (dk rfl) rfl (show ((89 : Nat) : Int) + 7 = ((96 : Nat) : Int) from rfl) (fun _ => ?_) (fun q => absurd ((nI_leI (by omega) (by omega)).mpr (by omega)) q)
              exact nxt z hz ez hzx (fun y hy ey => by
                rcases Nat.lt_or_ge y i with c1 | c1
                · exact hall y c1 ey
                · rw [show y = i by omega]
                  omega) _ rfl
          · refine br_ok X (dk rfl) rfl (show ((68 : Nat) : Int) + 28 = ((96 : Nat) : Int) from rfl) (fun _ => ?_) (fun q => absurd (fun z => ek (nI_inj (by omega) (by omega) z)) q)
            exact nxt z hz ez hzx (fun y hy ey => by
              rcases Nat.lt_or_ge y i with c1 | c1
              · exact hall y c1 ey
              · rw [show y = i by omega] at ey
                exact absurd ey ek) _ rfl
      iterate 4 refine fst1_ok X (dk rfl) rfl ?_
      exact loop X1.length 0 (fpN x X1) (Nat.add_zero _) f1 rfl (by omega) (fun y hy => absurd hy (Nat.not_lt_zero y)) _ rfl
    · have ha := H.2.2.1 _ f1 a el
      refine br_ok X (dk rfl) rfl (show ((26 : Nat) : Int) + 9 = ((35 : Nat) : Int) from rfl) (fun q => absurd q (show pI (hd (k (fpN x X1))) ≠ Int32.ofInt (-1) by rw [el]; exact nI_m1 (by omega))) (fun _ => ?_)
      iterate 2 refine fst1_ok X (dk rfl) rfl ?_
      refine callVR_ok (ci := 3) (T := TX1) (N := 5) (av := [vI (k (fpN x X1))]) (r := []) X E (s1_headAt h T (z := k (fpN x X1)) hkc) lkX1_headAt mlX1_94 lmX1_headAt lpX1_headAt ⟨Nat.le_of_ble_eq_true rfl, Nat.le_of_ble_eq_true rfl⟩ ⟨Nat.le_of_ble_eq_true rfl, Nat.le_of_ble_eq_true rfl⟩ rfl ⟨_, t3⟩ (Nat.le_of_ble_eq_true rfl) (dk rfl) ?_
      rintro _ rfl
      exact reti_ok X hr hlk rfl (dk rfl) (⟨⟨some a, by rw [← el], Or.inr ⟨a, rfl, hm, ha.1, ha.2.2, Or.inl el⟩⟩, rfl⟩) (Nat.le_of_ble_eq_true rfl) (Nat.le_of_ble_eq_true rfl)
  · rw [if_neg (fun z => hm (by
      have := List.getElem_mem z
      have e2 : X1[fpN x X1] = x := by
        have key : ∀ ys : List Nat, ∀ hh : fpN x ys < ys.length, ys[fpN x ys] = x := by
          intro ys
          induction ys with
          | nil => intro hh; exact absurd hh (Nat.not_lt_zero _)
          | cons y r ih =>
            intro hh
            by_cases c : y = x
            · subst c
              simp [fpN_eq]
            · have e := fpN_ne c r
              simp only [e] at hh ⊢
              simpa using ih (by simpa using hh)
        exact key X1 z
      rw [e2] at this
      exact this))]
    iterate 3 refine fst1_ok X (dk rfl) rfl ?_
    refine callVR_ok (ci := 3) (T := TX1) (N := 5) (av := [.int (Int32.ofInt (-1))]) (r := []) X E (s1_classAtN h T) lkX1_classAt mlX1_68 lmX1_classAt lpX1_classAt ⟨Nat.le_of_ble_eq_true rfl, Nat.le_of_ble_eq_true rfl⟩ ⟨Nat.le_of_ble_eq_true rfl, Nat.le_of_ble_eq_true rfl⟩ rfl ⟨_, t3⟩ (Nat.le_of_ble_eq_true rfl) (dk rfl) ?_
    rintro _ rfl
    iterate 3 refine fst1_ok X (dk rfl) rfl ?_
    refine br_ok X (dk rfl) rfl (show ((17 : Nat) : Int) + 12 = ((29 : Nat) : Int) from rfl) (fun _ => ?_) (fun q => absurd rfl q)
    iterate 2 refine fst1_ok X (dk rfl) rfl ?_
    refine callVR_ok (ci := 3) (T := TX1) (N := 5) (av := [.int (Int32.ofInt (-1))]) (r := []) X E (s1_headAtN h T) lkX1_headAt mlX1_94 lmX1_headAt lpX1_headAt ⟨Nat.le_of_ble_eq_true rfl, Nat.le_of_ble_eq_true rfl⟩ ⟨Nat.le_of_ble_eq_true rfl, Nat.le_of_ble_eq_true rfl⟩ rfl ⟨_, t3⟩ (Nat.le_of_ble_eq_true rfl) (dk rfl) ?_
    rintro _ rfl
    exact reti_ok X hr hlk rfl (dk rfl) (⟨⟨none, rfl, Or.inl ⟨rfl, Or.inl hm⟩⟩, rfl⟩) (Nat.le_of_ble_eq_true rfl) (Nat.le_of_ble_eq_true rfl)
/-- an answer by classes -/
def wcC (B Q P : Nat → Nat) (F : Nat → TC) (X : List Nat) (k : Nat → Nat) (f1 f2 : Nat → Int32) (ps : PL2) (f : Nat) (h : AH) (v : Option Value) (h' : AH) : Prop := v = none ∧ FrU B Q (LCl P Q) h h' ∧ ∃ (S : SS) (E : Nat → List Nat) (G : Nat → TC) (f3 : Nat → Int32), SKP X k S ∧ ExP X S E ∧ CTG B Q P h' (upK F f G 8) X f1 f2 f3 ps ∧ ∀ n, n < 8 → RP16 (G n) (E n)
theorem CTG.tm {B Q P : Nat → Nat} {h h' : AH} {F F' : Nat → TC} {X : List Nat} {f1 f2 f3 : Nat → Int32} {ps : PL2} (Y : LYO B Q) (T : CTG B Q P h F X f1 f2 f3 ps) (S' : TS B Q h' F') (e : F' 51 = F 51) (x : FrT B Q h h') : CTG B Q P h' F' X f1 f2 f3 ps := by
  obtain ⟨t1, t2, t3, t4, t5, t6, t7⟩ := T
  have kp : ∀ {j N : Nat} {g : Nat → Int32}, 60 ≤ j → j < 70 → RW1 h (Q j) N g → RW1 h' (Q j) N g := fun {j N g} h1 h2 ⟨row, r1, r2⟩ => ⟨row, by
    rw [x (Q j) (fun i hi => ⟨k_ne r1 (t1 i hi).2.1 (by decide), Yne Y h2 (by omega) (by omega)⟩)]
    exact r1, r2⟩
  exact ⟨S', by rw [e]; exact t2, x.keep t1 t3 (by decide) (by decide), kp (by decide) (by decide) t4, kp (by decide) (by decide) t5, kp (by decide) (by decide) t6, t7.frT t1 (hAq Y (by decide) (by decide) (by decide) (by decide)) x⟩
set_option maxHeartbeats 32000000 in
theorem s1_tellInto (h : AH) (Y : LYO B Q) {n1 : Nat} {k : Nat → Nat} {hd : Nat → Option Nat} (T : CTG B Q P h F X1 (nK k) (pK hd) f3 ps) (hY : BY X1 n1) (H : HDP X1 k hd) (G : GdK X1 n1 k) (A : AcK X1 k) {oo f : Nat} (O : AnO B h oo f) (hrm : ∀ n, n < 8 → rmI (f + n) = 16) : CT la D cA B0 pa yX1_tellInto cX1_tellInto 3 none (rmD 4 0 0) [.ref (P 5), .ref oo] h (wcC B Q P F X1 k (nK k) (pK hd) ps f h) := by
  refine CT_of (by decide +kernel) (Nat.le_of_ble_eq_true rfl) ?_
  intro p e s m args below meth c X E hr hlk hnm
  have dk : ∀ {pc : Nat} {q : Instr × Nat}, lkd DX1_tellInto pc = some q → decode cX1_tellInto pc = .ok q := lkd_ok DX1_tellInto_ok
  have hX := hY.1
  have hX32 := hX.2.2
  have hO := O.1
  have loop : ∀ (u i : Nat) (h1 : AH) (S : SS) (g : Nat → Int32), u + i = 8 → (∀ x, 8 ≤ x → S x = none) → (∀ x, x < i → PFO X1 k hd x (S x)) → CTG B Q P h1 F X1 (nK k) (pK hd) g ps → (∀ x, x < i → g x = pI (S x)) → FrU B Q (LCl P Q) h h1 → AnO B h1 oo f → ∀ l : List (Nat × Value), lsel l [2, 1, 0] = [(2, vI i), (1, .ref oo), (0, .ref (P 5))] → WR p la e (rmD 4 0 0) s m args below meth c D cA B0 3 (wcC B Q P F X1 k (nK k) (pK hd) ps f h) 2 l [] h1 0 0 := by
    intro u
    induction u with
    | zero =>
      intro i h1 S g hi hS8 hPF T1 hg f1 O1 l hl
      have hi8 : i = 8 := by omega
      subst hi8
      obtain ⟨t1, t2, t3, t4, t5, ⟨row3, q1, q2, q3⟩, t7⟩ := id T1
      have hsk := PFO.sk hX H G hS8 hPF
      have hac := hsk.ac hX G A
      obtain ⟨Ex, hE⟩ := ExP.ex hX hsk.s1 hac
      refine WS.sel [2, 1, 0] hl ?_
      iterate 2 refine fst1_ok X (dk rfl) rfl ?_
      refine br_ok X (dk rfl) rfl (show ((5 : Nat) : Int) + 20 = ((25 : Nat) : Int) from rfl) (fun _ => ?_) (fun q => absurd (by rw [nI_8']; exact Int32.le_refl _) q)
      iterate 2 refine fst1_ok X (dk rfl) rfl ?_
      refine getf_ok X flX1_16 (dk rfl) t3 rfl ?_
      refine fst1_ok X (dk rfl) rfl ?_
      refine getf_ok X flX1_27 (dk rfl) t3 rfl ?_
      refine callV_ok (ci := 2) (T := TX0) (N := 1) (av := [.ref (B 51), .ref (Q 63)]) (r := []) X E (s0_becomeWholeOf h1 Y t1 O1 hrm (ib := 51) (by omega) (by omega) hX t2 (R := Q 63) q1 q2 (fun n hn => by rw [q3 n hn, hg n hn]) (fun i hi => Yne Y (by decide) (by omega) (by omega)) hsk.s1 hac hE) lkX0_becomeWholeOf mlX1_88 lmX0_becomeWholeOf lpX0_becomeWholeOf ⟨Nat.le_of_ble_eq_true rfl, Nat.le_of_ble_eq_true rfl⟩ ⟨Nat.le_of_ble_eq_true rfl, Nat.le_of_ble_eq_true rfl⟩ rfl O1.2.choose_spec.1 (Nat.le_of_ble_eq_true rfl) (dk rfl) ?_
      rintro _ h2 ⟨rfl, f2, GG, S2, g2⟩
      exact retv_ok X hr hlk (dk rfl) (⟨rfl, f1.trans (f2.u _), S, Ex, GG, g, hsk, hE, T1.tm Y S2 (upK_out F f _ (by omega)) f2, g2⟩) (Nat.le_of_ble_eq_true rfl) (Nat.le_of_ble_eq_true rfl)
    | succ u ih =>
      intro i h1 S g hi hS8 hPF T1 hg f1 O1 l hl
      obtain ⟨t1, t2, t3, t4, t5, ⟨row3, q1, q2, q3⟩, t7⟩ := id T1
      have fi : Value.int (nI i + Int32.ofInt 1) = vI (i + 1) := congrArg Value.int (by rw [nI_1', nI_add])
      refine WS.sel [2, 1, 0] hl ?_
      iterate 2 refine fst1_ok X (dk rfl) rfl ?_
      refine br_ok X (dk rfl) rfl (show ((5 : Nat) : Int) + 20 = ((25 : Nat) : Int) from rfl) (fun q => absurd q (by rw [nI_8']; exact nI_ge (by omega) (by omega))) (fun _ => ?_)
      refine fst1_ok X (dk rfl) rfl ?_
      refine getf_ok X flX1_27 (dk rfl) t3 rfl ?_
      iterate 3 refine fst1_ok X (dk rfl) rfl ?_
      refine callVR_ok (ci := 3) (T := TX1) (N := 5) (av := [vI i]) (r := [vI i, .ref (Q 63)]) X E (s1_placeFor h1 T1 hX H (x := i) (by omega)) lkX1_placeFor mlX1_85 lmX1_placeFor lpX1_placeFor ⟨Nat.le_of_ble_eq_true rfl, Nat.le_of_ble_eq_true rfl⟩ ⟨Nat.le_of_ble_eq_true rfl, Nat.le_of_ble_eq_true rfl⟩ rfl ⟨_, t3⟩ (Nat.le_of_ble_eq_true rfl) (dk rfl) ?_
      rintro _ ⟨ox, rfl, hpf⟩
      refine ast7_ok X (dk rfl) q1 (nI_pos (by omega)) (by rw [nI_clamp (by omega)]; omega) ?_
      rw [nI_clamp (by omega)]
      have T2 := T1.s3 Y q1 (x := i) (by omega) (pI ox)
      have O2 : AnO B (hup h1 (Q 63) (107, (row3.set i (pI ox)).map Value.int)) oo f := O1.out q1 (by decide) (by decide) _
      refine fst1_ok X (dk rfl) rfl ?_
      refine br_ok X (dk rfl) rfl (show ((22 : Nat) : Int) + (-20) = ((2 : Nat) : Int) from rfl) (fun _ => ?_) (fun q => absurd trivial q)
      refine WS.sel (l' := [(2, vI (i + 1)), (1, .ref oo), (0, .ref (P 5))]) [2, 1, 0] (by rw [← fi]; rfl) ?_
      exact ih (i + 1) _ (fun y => if y = i then ox else S y) _ (by omega) (fun x hx => by
        rw [if_neg (by omega)]
        exact hS8 x hx) (fun x hx => by
        by_cases e9 : x = i
        · rw [if_pos e9, e9]
          exact hpf
        · rw [if_neg e9]
          exact hPF x (by omega)) T2 (fun x hx => by
        unfold up1
        by_cases e9 : x = i
        · rw [if_pos e9, if_pos e9]
        · rw [if_neg e9, if_neg e9]
          exact hg x (by omega)) (f1.set (LCl_q P Q).2.2 _) O2 _ rfl
  iterate 2 refine fst1_ok X (dk rfl) rfl ?_
  exact loop 8 0 h (fun _ => none) f3 rfl (fun x _ => rfl) (fun x hx => absurd hx (Nat.not_lt_zero x)) T (fun x hx => absurd hx (Nat.not_lt_zero x)) (FrU.rf h) O _ rfl
end S22
