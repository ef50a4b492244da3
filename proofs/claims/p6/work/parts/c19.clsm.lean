/-! two terms made alike by classes: what the classes are, whoever makes them -/
/-- k tells the classes of places: like terms, the two terms, the parts of heads that are together -/
def GdK (X : List Nat) (n1 : Nat) (k : Nat → Nat) : Prop := k 0 = k n1 ∧ (∀ p q, p < X.length → q < X.length → sub' X p = sub' X q → k p = k q) ∧
  ∀ p q, p < X.length → q < X.length → k p = k q → 10 ≤ gl X p → 10 ≤ gl X q → gl X p = gl X q ∧ ∀ j, j < ga X p → k (ko X p j) = k (ko X q j)
def Sbk (n : Nat) (k k' : Nat → Nat) : Prop := ∀ p q, p < n → q < n → k p = k q → k' p = k' q
theorem Sbk.rf (n : Nat) (k : Nat → Nat) : Sbk n k k := fun _ _ _ _ h => h
theorem Sbk.tr {n : Nat} {k1 k2 k3 : Nat → Nat} (a : Sbk n k1 k2) (b : Sbk n k2 k3) : Sbk n k1 k3 := fun p q hp hq h => b p q hp hq (a p q hp hq h)
/-- the least ones -/
def MnK (X : List Nat) (n1 : Nat) (k : Nat → Nat) : Prop := GdK X n1 k ∧ ∀ k', GdK X n1 k' → Sbk X.length k k'
def AcK (X : List Nat) (k : Nat → Nat) : Prop := ∃ rk : Nat → Nat, (∀ p q, p < X.length → q < X.length → k p = k q → rk p = rk q) ∧ ∀ p, p < X.length → ∀ j, j < ga X p → rk (ko X p j) < rk p
def Gnk (n : Nat) (k : Nat → Nat) (ps : PL2) (x y : Nat) : Prop := ∀ k' : Nat → Nat, Sbk n k k' → (∀ z ∈ ps, k' z.1 = k' z.2) → k' x = k' y
def ClK (X : List Nat) (k : Nat → Nat) (ps : PL2) : Prop := ∀ p q, p < X.length → q < X.length → k p = k q → 10 ≤ gl X p → 10 ≤ gl X q → gl X p = gl X q ∧ ∀ j, j < ga X p → Gnk X.length k ps (ko X p j) (ko X q j)
/-- two classes together -/
def mgK (k : Nat → Nat) (a b : Nat) : Nat → Nat := fun i => if k i = b then a else k i
theorem mgK_sb (n : Nat) (k : Nat → Nat) (a b : Nat) : Sbk n k (mgK k a b) := fun p q _ _ h => by
  unfold mgK
  rw [h]
theorem ClK.skip {X : List Nat} {k : Nat → Nat} {z : Nat × Nat} {ps : PL2} (C : ClK X k (z :: ps)) (h1 : z.1 < X.length) (h2 : z.2 < X.length) (h : k z.1 = k z.2) : ClK X k ps := fun p q hp hq e g1 g2 => by
  obtain ⟨c1, c2⟩ := C p q hp hq e g1 g2
  refine ⟨c1, fun j hj k' hs hps => c2 j hj k' hs (fun y hy => ?_)⟩
  rcases List.mem_cons.mp hy with rfl | hy
  · exact hs _ _ h1 h2 h
  · exact hps y hy
/-- one class of both has no head -/
theorem ClK.one {X : List Nat} {k : Nat → Nat} {z : Nat × Nat} {ps : PL2} (C : ClK X k (z :: ps)) (h1 : z.1 < X.length) (h2 : z.2 < X.length) (hn : (∀ p, p < X.length → k p = k z.1 → gl X p < 10) ∨ ∀ p, p < X.length → k p = k z.2 → gl X p < 10) : ClK X (mgK k (k z.1) (k z.2)) ps := fun p q hp hq e g1 g2 => by
  have hs0 := mgK_sb X.length k (k z.1) (k z.2)
  have hz : mgK k (k z.1) (k z.2) z.1 = mgK k (k z.1) (k z.2) z.2 := by
    unfold mgK
    rw [if_pos rfl]
    split <;> rfl
  have key : k p = k q := by
    unfold mgK at e
    by_cases c1 : k p = k z.2
    · rw [if_pos c1] at e
      by_cases c2 : k q = k z.2
      · rw [c1, c2]
      · rw [if_neg c2] at e
        rcases hn with hn | hn
        · have := hn q hq e.symm; omega
        · have := hn p hp c1; omega
    · rw [if_neg c1] at e
      by_cases c2 : k q = k z.2
      · rw [if_pos c2] at e
        rcases hn with hn | hn
        · have := hn p hp e; omega
        · have := hn q hq c2; omega
      · rw [if_neg c2] at e
        exact e
  obtain ⟨c1, c2⟩ := C p q hp hq key g1 g2
  refine ⟨c1, fun j hj k' hs hps => c2 j hj k' (hs0.tr hs) (fun y hy => ?_)⟩
  rcases List.mem_cons.mp hy with rfl | hy
  · exact hs _ _ h1 h2 hz
  · exact hps y hy
theorem kdL_mem {X : List Nat} {a b n j i : Nat} (h : i < n) : (ko X a (j + i), ko X b (j + i)) ∈ kdL X a b n j := List.mem_of_getElem? (kdL_get X a b n j i h)
/-- both have heads, of one letter: their parts wait -/
theorem ClK.two {X : List Nat} {k : Nat → Nat} {z : Nat × Nat} {ps : PL2} (C : ClK X k (z :: ps)) (h1 : z.1 < X.length) (h2 : z.2 < X.length) {a b : Nat} (ha : a < X.length) (hb : b < X.length) (ka : k a = k z.1) (kb : k b = k z.2) (ga1 : 10 ≤ gl X a) (gb1 : 10 ≤ gl X b) (hg : gl X a = gl X b) : ClK X (mgK k (k z.1) (k z.2)) (kdL X a b (ga X a) 0 ++ ps) := fun p q hp hq e g1 g2 => by
  have hs0 := mgK_sb X.length k (k z.1) (k z.2)
  have hz : mgK k (k z.1) (k z.2) z.1 = mgK k (k z.1) (k z.2) z.2 := by
    unfold mgK
    rw [if_pos rfl]
    split <;> rfl
  have up : ∀ {x y : Nat}, Gnk X.length k (z :: ps) x y → Gnk X.length (mgK k (k z.1) (k z.2)) (kdL X a b (ga X a) 0 ++ ps) x y := fun {x y} g k' hs hps => g k' (hs0.tr hs) (fun y hy => by
    rcases List.mem_cons.mp hy with rfl | hy
    · exact hs _ _ h1 h2 hz
    · exact hps y (List.mem_append_right _ hy))
  have kid : ∀ j, j < ga X a → Gnk X.length (mgK k (k z.1) (k z.2)) (kdL X a b (ga X a) 0 ++ ps) (ko X a j) (ko X b j) := fun j hj k' hs hps => by
    have := hps _ (List.mem_append_left _ (kdL_mem (X := X) (a := a) (b := b) (j := 0) hj))
    rw [Nat.zero_add] at this
    exact this
  have cross : ∀ p q, p < X.length → q < X.length → k p = k z.1 → k q = k z.2 → 10 ≤ gl X p → 10 ≤ gl X q → gl X p = gl X q ∧ ∀ j, j < ga X p → Gnk X.length (mgK k (k z.1) (k z.2)) (kdL X a b (ga X a) 0 ++ ps) (ko X p j) (ko X q j) := fun p q hp hq e1 e2 g1 g2 => by
    obtain ⟨c1, c2⟩ := C p a hp ha (e1.trans ka.symm) g1 ga1
    obtain ⟨c3, c4⟩ := C b q hb hq (kb.trans e2.symm) gb1 g2
    refine ⟨c1.trans (hg.trans c3), fun j hj k' hs hps => ?_⟩
    have hja : j < ga X a := by rw [← ga_eq c1]; exact hj
    have x1 := up (c2 j hj) k' hs hps
    have x2 := kid j hja k' hs hps
    have x3 := up (c4 j (by rw [← ga_eq hg]; exact hja)) k' hs hps
    exact x1.trans (x2.trans x3)
  by_cases ek : k p = k q
  · obtain ⟨c1, c2⟩ := C p q hp hq ek g1 g2
    exact ⟨c1, fun j hj => up (c2 j hj)⟩
  · unfold mgK at e
    by_cases c1 : k p = k z.2
    · rw [if_pos c1] at e
      by_cases c2 : k q = k z.2
      · exact absurd (c1.trans c2.symm) ek
      · rw [if_neg c2] at e
        obtain ⟨x1, x2⟩ := cross q p hq hp e.symm c1 g2 g1
        exact ⟨x1.symm, fun j hj k' hs hps => (x2 j (by rw [ga_eq x1]; exact hj) k' hs hps).symm⟩
    · rw [if_neg c1] at e
      by_cases c2 : k q = k z.2
      · rw [if_pos c2] at e
        exact cross p q hp hq e c2 g1 g2
      · rw [if_neg c2] at e
        exact absurd e ek
/-- what good classes have together -/
theorem mgK_sound {X : List Nat} {k k' : Nat → Nat} {z : Nat × Nat} (h1 : z.1 < X.length) (h2 : z.2 < X.length) (hs : Sbk X.length k k') (hz : k' z.1 = k' z.2) : Sbk X.length (mgK k (k z.1) (k z.2)) k' := fun p q hp hq e => by
  unfold mgK at e
  by_cases c1 : k p = k z.2
  · rw [if_pos c1] at e
    have x1 := hs p z.2 hp h2 c1
    by_cases c2 : k q = k z.2
    · rw [x1, hs q z.2 hq h2 c2]
    · rw [if_neg c2] at e
      rw [x1, ← hz, hs z.1 q h1 hq e]
  · rw [if_neg c1] at e
    by_cases c2 : k q = k z.2
    · rw [if_pos c2] at e
      rw [hs q z.2 hq h2 c2, ← hz, hs p z.1 hp h1 e]
    · rw [if_neg c2] at e
      exact hs p q hp hq e
theorem GdK.heads {X : List Nat} {n1 : Nat} {k' : Nat → Nat} (G : GdK X n1 k') {k : Nat → Nat} {z : Nat × Nat} (h1 : z.1 < X.length) (h2 : z.2 < X.length) (hs : Sbk X.length k k') (hz : k' z.1 = k' z.2) {a b : Nat} (ha : a < X.length) (hb : b < X.length) (ka : k a = k z.1) (kb : k b = k z.2) (ga1 : 10 ≤ gl X a) (gb1 : 10 ≤ gl X b) : gl X a = gl X b ∧ ∀ j, j < ga X a → k' (ko X a j) = k' (ko X b j) :=
  G.2.2 a b ha hb (by rw [hs a z.1 ha h1 ka, hs b z.2 hb h2 kb, hz]) ga1 gb1
theorem ClK.end {X : List Nat} {n1 : Nat} {k : Nat → Nat} (C : ClK X k []) (h0 : k 0 = k n1) (hs : ∀ p q, p < X.length → q < X.length → sub' X p = sub' X q → k p = k q) : GdK X n1 k :=
  ⟨h0, hs, fun p q hp hq e g1 g2 => by
    obtain ⟨c1, c2⟩ := C p q hp hq e g1 g2
    exact ⟨c1, fun j hj => c2 j hj k (Sbk.rf _ _) (fun y hy => by simp at hy)⟩⟩
theorem MnK.iff {X : List Nat} {n1 : Nat} {k k' : Nat → Nat} (M : MnK X n1 k) (M' : MnK X n1 k') {p q : Nat} (hp : p < X.length) (hq : q < X.length) : k p = k q ↔ k' p = k' q := ⟨M.2 k' M'.1 p q hp hq, M'.2 k M.1 p q hp hq⟩
theorem AcK.of {X : List Nat} {n1 : Nat} {k k' : Nat → Nat} (M : MnK X n1 k) (M' : MnK X n1 k') (A : AcK X k) : AcK X k' := by
  obtain ⟨rk, r1, r2⟩ := A
  exact ⟨rk, fun p q hp hq e => r1 p q hp hq ((M.iff M' hp hq).mpr e), r2⟩
theorem sub_kid {X : List Nat} (hX : BX X) {p q : Nat} (hp : p < X.length) (hq : q < X.length) (e : sub' X p = sub' X q) : gl X p = gl X q ∧ ∀ j, j < ga X p → sub' X (ko X p j) = sub' X (ko X q j) := by
  have eg : gl X p = gl X q := by
    rw [sub_cons hX hp, sub_cons hX hq] at e
    exact (List.cons.inj e).1
  refine ⟨eg, fun j hj => ?_⟩
  have hj2 : j < ga X q := by rw [← ga_eq eg]; exact hj
  have a1 := ko_sub hX hp j (by omega)
  have a2 := ko_sub hX hq j (by omega)
  obtain ⟨k1, k2, -, -, -⟩ := ko_mono hX hp hj
  obtain ⟨l1, l2, -, -, -⟩ := ko_mono hX hq hj2
  rw [← (sub_sub hX hp (z := ko X p j) (by omega) k2).2, ← (sub_sub hX hq (z := ko X q j) (by omega) l2).2, show ko X p j - p = ko (sub' X p) 0 j by omega, show ko X q j - q = ko (sub' X q) 0 j by omega, e]
/-! the reference's classes -/
noncomputable def nuX (X : List Nat) (p : Nat) : Nat := Classical.epsilon (fun j => (tsN X X.length)[j]? = some (sub' X p))
theorem nuX_ok (X : List Nat) {p : Nat} (hp : p < X.length) : (tsN X X.length)[nuX X p]? = some (sub' X p) := by
  have h : ∃ j : Nat, (tsN X X.length)[j]? = some (sub' X p) := List.getElem?_of_mem ((tsN_mem X X.length _).mpr ⟨p, hp, rfl⟩)
  exact Classical.epsilon_spec h
theorem nuX_lt (X : List Nat) {p : Nat} (hp : p < X.length) : nuX X p < (tsN X X.length).length := (List.getElem?_eq_some_iff.mp (nuX_ok X hp)).1
theorem nuX_iff (X : List Nat) {p q : Nat} (hp : p < X.length) (hq : q < X.length) : nuX X p = nuX X q ↔ sub' X p = sub' X q := by
  have h1 := nuX_ok X hp
  have h2 := nuX_ok X hq
  constructor
  · intro e
    rw [e, h2] at h1
    exact (Option.some.inj h1).symm
  · intro e
    rw [e] at h1
    exact tsN_uq X X.length _ _ _ h1 h2
theorem nuX_un (X : List Nat) {p j : Nat} (hp : p < X.length) (h : (tsN X X.length)[j]? = some (sub' X p)) : j = nuX X p := tsN_uq X X.length _ _ _ h (nuX_ok X hp)
theorem nuX_sur (X : List Nat) {i : Nat} (hi : i < (tsN X X.length).length) : ∃ p, p < X.length ∧ nuX X p = i := by
  obtain ⟨p, hp, e⟩ := (tsN_mem X X.length _).mp (List.getElem_mem hi)
  exact ⟨p, hp, (nuX_un X hp (by rw [List.getElem?_eq_getElem hi, e])).symm⟩
theorem nuX_get (X : List Nat) {p : Nat} (hp : p < X.length) : (tsN X X.length).getD (nuX X p) [] = sub' X p := by rw [List.getD_eq_getElem?_getD, nuX_ok X hp]; rfl
theorem nuX_hd {X : List Nat} (hX : BX X) {p : Nat} (hp : p < X.length) : hdT (tsN X X.length) (nuX X p) = gl X p := by
  unfold hdT
  rw [nuX_get X hp, sub_cons hX hp]
  rfl
theorem nuX_pt {X : List Nat} (hX : BX X) {pt : List Nat} (H : PtX (tsN X X.length) pt (tsN X X.length).length 0) {p j : Nat} (hp : p < X.length) (hj : j < ga X p) : pt.getD (3 * nuX X p + j) 0 = nuX X (ko X p j) := by
  have h := H (nuX X p) j (nuX_lt X hp) (by rw [nuX_hd hX hp]; exact hj) (Or.inl (nuX_lt X hp))
  obtain ⟨k1, k2, -, -, k5⟩ := ko_mono hX hp hj
  rw [nuX_get X hp, show ko (sub' X p) 0 j = ko X p j - p by have := ko_sub hX hp j (by omega); omega, (sub_sub hX hp (z := ko X p j) (by omega) k2).2] at h
  exact nuX_un X k5 h
/-- the class of a place -/
noncomputable def oK (X : List Nat) (of' : List Nat) (p : Nat) : Nat := of'.getD (nuX X p) 0
theorem joinF_len {ts : List (List Nat)} {pt : List Nat} : ∀ (f : Nat) (of' : List Nat) (can : Bool) (one other : Nat) (o2 : List Nat) (c2 : Bool), joinF ts pt f of' can one other = some (o2, c2) → o2.length = of'.length ∧ (can = false → o2 = of' ∧ c2 = false)
  | 0, of', can, one, other, o2, c2, h => by cases h
  | f + 1, of', can, one, other, o2, c2, h => by
    unfold joinF at h
    by_cases c : of'.getD one 0 = of'.getD other 0 ∨ can = false
    · rw [if_pos c] at h
      simp only [Option.some.injEq, Prod.mk.injEq] at h
      obtain ⟨rfl, rfl⟩ := h
      exact ⟨rfl, fun z => ⟨rfl, z⟩⟩
    · rw [if_neg c] at h
      refine ⟨?_, fun z => absurd (Or.inr z) c⟩
      have loop : ∀ (a b n j : Nat) (o1 : List Nat) (c1 : Bool), o1.length = of'.length → joinL (joinF ts pt f) pt a b n j o1 c1 = some (o2, c2) → o2.length = of'.length := by
        intro a b n
        induction n with
        | zero =>
          intro j o1 c1 hl h
          simp only [joinL, Option.some.injEq, Prod.mk.injEq] at h
          obtain ⟨rfl, rfl⟩ := h
          exact hl
        | succ n ih =>
          intro j o1 c1 hl h
          rw [joinL] at h
          split at h
          · cases h
          · rename_i o3 c3 e
            exact ih (j + 1) o3 c3 ((joinF_len f o1 c1 _ _ o3 c3 e).1.trans hl) h
      split at h
      · split at h
        · exact loop _ _ _ _ _ _ (relF_len _ _ _ _) h
        · simp only [Option.some.injEq, Prod.mk.injEq] at h
          obtain ⟨rfl, rfl⟩ := h
          exact relF_len _ _ _ _
      · simp only [Option.some.injEq, Prod.mk.injEq] at h
        obtain ⟨rfl, rfl⟩ := h
        exact relF_len _ _ _ _
theorem oK_rel {X : List Nat} (h32 : (tsN X X.length).length ≤ 32) {of' : List Nat} (hl : of'.length = 32) (a b : Nat) {p : Nat} (hp : p < X.length) : oK X (relF of' a b (tsN X X.length).length) p = mgK (oK X of') a b p := by
  unfold oK mgK
  rw [relF_get hl h32]
  have := nuX_lt X hp
  by_cases c : of'.getD (nuX X p) 0 = b
  · rw [if_pos ⟨this, c⟩, if_pos c]
  · rw [if_neg (fun z => c z.2), if_neg c]
theorem ClK.congr {X : List Nat} (hX : BX X) {k k2 : Nat → Nat} {ps : PL2} (h : ∀ p, p < X.length → k p = k2 p) (C : ClK X k ps) : ClK X k2 ps := fun p q hp hq e g1 g2 => by
  obtain ⟨c1, c2⟩ := C p q hp hq (by rw [h p hp, h q hq]; exact e) g1 g2
  exact ⟨c1, fun j hj k' hs hps => c2 j hj k' (fun a b ha hb z => hs a b ha hb (by rw [← h a ha, ← h b hb]; exact z)) hps⟩
theorem Sbk.congr {n : Nat} {k k2 k' : Nat → Nat} (h : ∀ p, p < n → k p = k2 p) (C : Sbk n k k') : Sbk n k2 k' := fun p q hp hq e => C p q hp hq (by rw [h p hp, h q hq]; exact e)
def JoS (X : List Nat) (n1 : Nat) (pt : List Nat) (f : Nat) : Prop := ∀ (of' : List Nat) (z : Nat × Nat) (o2 : List Nat) (c2 : Bool) (ps : PL2), z.1 < X.length → z.2 < X.length → of'.length = 32 → joinF (tsN X X.length) pt f of' true (nuX X z.1) (nuX X z.2) = some (o2, c2) → ClK X (oK X of') (z :: ps) →
  (c2 = true → ClK X (oK X o2) ps ∧ Sbk X.length (oK X of') (oK X o2) ∧ oK X o2 z.1 = oK X o2 z.2) ∧ ∀ k', GdK X n1 k' → Sbk X.length (oK X of') k' → k' z.1 = k' z.2 → c2 = true ∧ Sbk X.length (oK X o2) k'
theorem joinL_no {ts : List (List Nat)} {pt : List Nat} {f a b : Nat} : ∀ (n j : Nat) (of' o2 : List Nat) (c2 : Bool), joinL (joinF ts pt f) pt a b n j of' false = some (o2, c2) → c2 = false
  | 0, j, of', o2, c2, h => by
    simp only [joinL, Option.some.injEq, Prod.mk.injEq] at h
    exact h.2.symm
  | n + 1, j, of', o2, c2, h => by
    rw [joinL] at h
    split at h
    · cases h
    · rename_i o3 c3 e
      rw [((joinF_len f of' false _ _ o3 c3 e).2 rfl).2] at h
      exact joinL_no n (j + 1) o3 o2 c2 h
theorem joinL_sim {X : List Nat} (hX : BX X) {n1 : Nat} {pt : List Nat} (H : PtX (tsN X X.length) pt (tsN X X.length).length 0) {f : Nat} (IH : JoS X n1 pt f) {u v : Nat} (hu : u < X.length) (hv : v < X.length) (hg : gl X u = gl X v) : ∀ (n j : Nat) (of' o2 : List Nat) (c2 : Bool) (ps : PL2), j + n = ga X u → of'.length = 32 → joinL (joinF (tsN X X.length) pt f) pt (nuX X u) (nuX X v) n j of' true = some (o2, c2) → ClK X (oK X of') (kdL X u v n j ++ ps) →
    (c2 = true → ClK X (oK X o2) ps ∧ Sbk X.length (oK X of') (oK X o2)) ∧ ∀ k', GdK X n1 k' → Sbk X.length (oK X of') k' → (∀ i, j ≤ i → i < j + n → k' (ko X u i) = k' (ko X v i)) → c2 = true ∧ Sbk X.length (oK X o2) k' := by
  intro n
  induction n with
  | zero =>
    intro j of' o2 c2 ps hj hl h C
    simp only [joinL, Option.some.injEq, Prod.mk.injEq] at h
    obtain ⟨rfl, rfl⟩ := h
    exact ⟨fun _ => ⟨C, Sbk.rf _ _⟩, fun k' hG hs _ => ⟨rfl, hs⟩⟩
  | succ n ih =>
    intro j of' o2 c2 ps hj hl h C
    have hju : j < ga X u := by omega
    have hjv : j < ga X v := by rw [← ga_eq hg]; exact hju
    have ku := (ko_mono hX hu hju).2.2.2.2
    have kv := (ko_mono hX hv hjv).2.2.2.2
    rw [joinL, nuX_pt hX H hu hju, nuX_pt hX H hv hjv] at h
    split at h
    · cases h
    · rename_i o3 c3 e
      have hl3 := (joinF_len f of' true _ _ o3 c3 e).1
      obtain ⟨i1, i2⟩ := IH of' (ko X u j, ko X v j) o3 c3 (kdL X u v n (j + 1) ++ ps) ku kv hl e C
      cases c3 with
      | false =>
        have hc2 := joinL_no n (j + 1) o3 o2 c2 h
        refine ⟨fun z => (by rw [hc2] at z; cases z), fun k' hG hs hk => ?_⟩
        have := (i2 k' hG hs (hk j (Nat.le_refl _) (by omega))).1
        cases this
      | true =>
        obtain ⟨a1, a2, a3⟩ := i1 rfl
        obtain ⟨b1, b2⟩ := ih (j + 1) o3 o2 c2 ps (by omega) (by omega) h a1
        refine ⟨fun z => ⟨(b1 z).1, a2.tr (b1 z).2⟩, fun k' hG hs hk => ?_⟩
        exact b2 k' hG (i2 k' hG hs (hk j (Nat.le_refl _) (by omega))).2 (fun i h1 h2 => hk i (by omega) (by omega))
theorem join_sim {X : List Nat} (hX : BX X) {n1 : Nat} {pt : List Nat} (H : PtX (tsN X X.length) pt (tsN X X.length).length 0) (h32 : (tsN X X.length).length ≤ 32) : ∀ f, JoS X n1 pt f := by
  intro f
  induction f with
  | zero => intro of' z o2 c2 ps h1 h2 hl h C; cases h
  | succ f IH =>
    intro of' z o2 c2 ps h1 h2 hl h C
    unfold joinF at h
    by_cases c : of'.getD (nuX X z.1) 0 = of'.getD (nuX X z.2) 0
    · rw [if_pos (Or.inl c)] at h
      simp only [Option.some.injEq, Prod.mk.injEq] at h
      obtain ⟨rfl, rfl⟩ := h
      exact ⟨fun _ => ⟨C.skip h1 h2 c, Sbk.rf _ _, c⟩, fun k' hG hs _ => ⟨rfl, hs⟩⟩
    · rw [if_neg (fun w => w.elim c (fun q => by cases q))] at h
      have hcg : ∀ p, p < X.length → mgK (oK X of') (oK X of' z.1) (oK X of' z.2) p = oK X (relF of' (of'.getD (nuX X z.1) 0) (of'.getD (nuX X z.2) 0) (tsN X X.length).length) p := fun p hp => (oK_rel h32 hl _ _ hp).symm
      have hz : oK X (relF of' (of'.getD (nuX X z.1) 0) (of'.getD (nuX X z.2) 0) (tsN X X.length).length) z.1 = oK X (relF of' (of'.getD (nuX X z.1) 0) (of'.getD (nuX X z.2) 0) (tsN X X.length).length) z.2 := by
        rw [← hcg z.1 h1, ← hcg z.2 h2]
        unfold mgK
        rw [if_pos rfl]
        split <;> rfl
      have hsb := (mgK_sb X.length (oK X of') (oK X of' z.1) (oK X of' z.2))
      have hsb2 : Sbk X.length (oK X of') (oK X (relF of' (of'.getD (nuX X z.1) 0) (of'.getD (nuX X z.2) 0) (tsN X X.length).length)) := fun p q hp hq e => by
        rw [← hcg p hp, ← hcg q hq]
        exact hsb p q hp hq e
      have nohead : ∀ w, w < X.length → headF (tsN X X.length) of' (of'.getD (nuX X w) 0) = none → ∀ p, p < X.length → oK X of' p = oK X of' w → gl X p < 10 := fun w hw hn p hp e => by
        have := headF_no hn (nuX_lt X hp) e
        rw [nuX_hd hX hp] at this
        exact this
      have simple : ((∀ p, p < X.length → oK X of' p = oK X of' z.1 → gl X p < 10) ∨ ∀ p, p < X.length → oK X of' p = oK X of' z.2 → gl X p < 10) → o2 = relF of' (of'.getD (nuX X z.1) 0) (of'.getD (nuX X z.2) 0) (tsN X X.length).length → c2 = true →
          (c2 = true → ClK X (oK X o2) ps ∧ Sbk X.length (oK X of') (oK X o2) ∧ oK X o2 z.1 = oK X o2 z.2) ∧ ∀ k', GdK X n1 k' → Sbk X.length (oK X of') k' → k' z.1 = k' z.2 → c2 = true ∧ Sbk X.length (oK X o2) k' := fun hn e1 e2 => by
        subst e1
        exact ⟨fun _ => ⟨(C.one h1 h2 hn).congr hX hcg, hsb2, hz⟩, fun k' hG hs hk => ⟨e2, (mgK_sound h1 h2 hs hk).congr hcg⟩⟩
      cases e1 : headF (tsN X X.length) of' (of'.getD (nuX X z.1) 0) with
      | none =>
        rw [e1] at h
        simp only [Option.some.injEq, Prod.mk.injEq] at h
        exact simple (Or.inl (nohead z.1 h1 e1)) h.1.symm h.2.symm
      | some a =>
        cases e2 : headF (tsN X X.length) of' (of'.getD (nuX X z.2) 0) with
        | none =>
          rw [e1, e2] at h
          simp only [Option.some.injEq, Prod.mk.injEq] at h
          exact simple (Or.inr (nohead z.2 h2 e2)) h.1.symm h.2.symm
        | some b =>
          rw [e1, e2] at h
          dsimp only at h
          obtain ⟨a1, a2, a3⟩ := headF_ok e1
          obtain ⟨b1, b2, b3⟩ := headF_ok e2
          obtain ⟨u, hu, rfl⟩ := nuX_sur X a1
          obtain ⟨v, hv, rfl⟩ := nuX_sur X b1
          rw [nuX_hd hX hu] at a3 h
          rw [nuX_hd hX hv] at b3 h
          by_cases hg : gl X u = gl X v
          · rw [if_pos hg] at h
            have C2 := ((C.two h1 h2 hu hv a2 b2 a3 b3 hg).congr hX hcg)
            obtain ⟨x1, x2⟩ := joinL_sim hX H IH hu hv hg (pF (gl X u)) 0 _ o2 c2 ps (Nat.zero_add _) (by rw [relF_len]; exact hl) h C2
            refine ⟨fun w => ⟨(x1 w).1, hsb2.tr (x1 w).2, (x1 w).2 _ _ h1 h2 hz⟩, fun k' hG hs hk => ?_⟩
            exact x2 k' hG ((mgK_sound h1 h2 hs hk).congr hcg) (fun i _ hi => (hG.heads h1 h2 hs hk hu hv a2 b2 a3 b3).2 i (by rw [Nat.zero_add] at hi; exact hi))
          · rw [if_neg hg] at h
            simp only [Option.some.injEq, Prod.mk.injEq] at h
            obtain ⟨-, rfl⟩ := h
            exact ⟨fun w => (by cases w), fun k' hG hs hk => absurd (hG.heads h1 h2 hs hk hu hv a2 b2 a3 b3).1 hg⟩
/-- the reference's classes are the least ones, or there are none -/
theorem joinF_mn {X : List Nat} {n1 : Nat} (hY : BY X n1) {pt : List Nat} (H : PtX (tsN X X.length) pt (tsN X X.length).length 0) {i0 i1 : Nat} {of' : List Nat} {c1 : Bool} (e0 : (tsN X X.length)[i0]? = some (sub' X 0)) (e1 : (tsN X X.length)[i1]? = some (sub' X n1)) (h : joinF (tsN X X.length) pt 33 (ofN X X.length) true i0 i1 = some (of', c1)) : (c1 = true → MnK X n1 (oK X of')) ∧ ((∃ k, GdK X n1 k) → c1 = true) := by
  have hX := hY.1
  have h0 : 0 < X.length := by have := hY.2.2.2.1; omega
  have hn := hY.2.2.2.1
  have h32 : (tsN X X.length).length ≤ 32 := Nat.le_trans (tsN_len X _) hX.2.2
  rw [nuX_un X h0 e0, nuX_un X hn e1] at h
  have hid : ∀ p, p < X.length → oK X (ofN X X.length) p = nuX X p := fun p hp => ofN_get X X.length hX.2.2 _ (nuX_lt X hp)
  have C0 : ClK X (oK X (ofN X X.length)) [(0, n1)] := fun p q hp hq e g1 g2 => by
    rw [hid p hp, hid q hq, nuX_iff X hp hq] at e
    obtain ⟨s1, s2⟩ := sub_kid hX hp hq e
    refine ⟨s1, fun j hj k' hs _ => ?_⟩
    have k1 := (ko_mono hX hp hj).2.2.2.2
    have k2 := (ko_mono hX hq (by rw [← ga_eq s1]; exact hj)).2.2.2.2
    exact hs _ _ k1 k2 (by rw [hid _ k1, hid _ k2, nuX_iff X k1 k2]; exact s2 j hj)
  obtain ⟨x1, x2⟩ := join_sim hX H h32 33 (ofN X X.length) (0, n1) of' c1 [] h0 hn (ofN_len X _) h C0
  have base : ∀ k', GdK X n1 k' → Sbk X.length (oK X (ofN X X.length)) k' := fun k' hG p q hp hq e => by
    rw [hid p hp, hid q hq, nuX_iff X hp hq] at e
    exact hG.2.1 p q hp hq e
  refine ⟨fun z => ⟨?_, fun k' hG => (x2 k' hG (base k' hG) hG.1).2⟩, fun ⟨k, hG⟩ => (x2 k hG (base k hG) hG.1).1⟩
  obtain ⟨y1, y2, y3⟩ := x1 z
  exact y1.end y3 (fun p q hp hq e => by unfold oK; rw [(nuX_iff X hp hq).mpr e])
