section Uc24acts5
/-! the class's acts, strongly: plain, common, match, alike (printed by wip/p20/genU1.py) -/
theorem cnt_or : ∀ m : Nat, m < 256 → ∀ x : Nat, x < 8 → (m >>> x % 2 = 0 → cntN (m ||| 2 ^ x) 8 = cntN m 8 + 1) ∧ (m >>> x % 2 = 1 → m ||| 2 ^ x = m) := by decide +kernel
theorem namesN_add (xs : List Nat) (x : Nat) : namesN (xs ++ [x]) = if x < 10 then namesN xs ||| 2 ^ x else namesN xs := by
  unfold namesN
  rw [List.foldl_append]
  rfl
theorem fpN_take {x : Nat} : ∀ {xs : List Nat} {j : Nat}, xs[j]? = some x → x ∉ xs.take j → fpN x xs = j
  | [], j, h, _ => by cases h
  | y :: r, 0, h, _ => by
    cases h
    exact fpN_eq x r
  | y :: r, j + 1, h, hn => by
    rw [List.take_succ_cons] at hn
    have h1 : ¬ y = x := fun z => hn (by rw [z]; exact List.mem_cons_self)
    rw [fpN_ne h1, fpN_take (xs := r) (j := j) h (fun z => hn (List.mem_cons_of_mem _ z))]
/-- the reference's row of names tells what the first places tell -/
theorem plainL_P {xs : List Nat} (hx : ∀ x ∈ xs, okL x) : plainL xs = plP xs := by
  have key : ∀ j, j ≤ xs.length → (plainS (xs.take j)).2.1 = cntN (namesN (xs.take j)) 8 ∧ (plainS (xs.take j)).1.length = 8 ∧ (∀ x, x < 8 → (plainS (xs.take j)).1.getD x 0 = if x ∈ xs.take j then cntN (namesN (xs.take (fpN x xs))) 8 + 1 else 0) ∧ (plainS (xs.take j)).2.2 = (plP xs).take j := by
    intro j
    induction j with
    | zero =>
      intro _
      rw [List.take_zero, List.take_zero]
      refine ⟨rfl, rfl, fun x hx => ?_, rfl⟩
      rw [if_neg (fun z => by simp at z)]
      have : ∀ x : Nat, x < 8 → (List.replicate 8 0).getD x 0 = 0 := by decide
      exact this x hx
    | succ j ih =>
      intro hj
      obtain ⟨i1, i2, i3, i4⟩ := ih (by omega)
      obtain ⟨x, hx1⟩ : ∃ x, xs[j]? = some x := ⟨_, List.getElem?_eq_getElem (by omega)⟩
      have ox := hx x (List.mem_of_getElem? hx1)
      have lt := namesN_lt (xs := xs.take j) (fun y hy => hx y (List.mem_of_mem_take hy))
      have et : xs.take (j + 1) = xs.take j ++ [x] := by rw [List.take_add_one, hx1]; rfl
      have ep : (plP xs).take (j + 1) = (plP xs).take j ++ [if x < 8 then cntN (namesN (xs.take (fpN x xs))) 8 else x] := by
        rw [List.take_add_one]
        unfold plP
        rw [List.getElem?_map, hx1]
        rfl
      rw [plainS_succ hx1, et, namesN_add, ep]
      unfold plainStep
      by_cases h10 : 10 ≤ x
      · rw [if_pos h10, if_neg (show ¬ x < 10 by omega), if_neg (show ¬ x < 8 by omega)]
        refine ⟨i1, i2, fun y hy => ?_, by rw [i4]⟩
        rw [i3 y hy]
        by_cases hm : y ∈ xs.take j
        · rw [if_pos hm, if_pos (List.mem_append_left _ hm)]
        · rw [if_neg hm, if_neg (fun z => (List.mem_append.mp z).elim hm (fun w => by have := List.mem_singleton.mp w; omega))]
      · have hx8 : x < 8 := by rcases ox with q | q <;> omega
        have hb := namesN_mem (y := x) (by omega) (xs.take j)
        unfold bt at hb
        rw [if_neg h10, if_pos (show x < 10 by omega), if_pos hx8]
        obtain ⟨c1, c2⟩ := cnt_or _ lt x hx8
        by_cases hm : x ∈ xs.take j
        · have e := i3 x hx8
          rw [if_pos hm] at e
          rw [if_neg (show ¬ (plainS (xs.take j)).1.getD x 0 = 0 by omega), c2 (hb.mpr hm)]
          refine ⟨i1, i2, fun y hy => ?_, by rw [i4, e]; rfl⟩
          rw [i3 y hy]
          by_cases hm2 : y ∈ xs.take j
          · rw [if_pos hm2, if_pos (List.mem_append_left _ hm2)]
          · rw [if_neg hm2, if_neg (fun z => (List.mem_append.mp z).elim hm2 (fun w => hm2 (by rw [List.mem_singleton.mp w]; exact hm)))]
        · have e := i3 x hx8
          rw [if_neg hm] at e
          have h0 : namesN (xs.take j) >>> x % 2 = 0 := by
            rcases Nat.mod_two_eq_zero_or_one (namesN (xs.take j) >>> x) with z | z
            · exact z
            · exact absurd (hb.mp z) hm
          have ef := fpN_take hx1 hm
          rw [if_pos e, c1 h0]
          refine ⟨by rw [i1], by rw [List.length_set]; exact i2, fun y hy => ?_, by rw [i4, i1, ef]⟩
          by_cases exy : y = x
          · subst exy
            rw [if_pos (List.mem_append_right _ (List.mem_singleton.mpr rfl)), List.getD_eq_getElem?_getD, List.getElem?_set_self (by omega), ef, i1]
            rfl
          · rw [List.getD_eq_getElem?_getD, List.getElem?_set_ne (Ne.symm exy), ← List.getD_eq_getElem?_getD, i3 y hy]
            by_cases hm2 : y ∈ xs.take j
            · rw [if_pos hm2, if_pos (List.mem_append_left _ hm2)]
            · rw [if_neg hm2, if_neg (fun z => (List.mem_append.mp z).elim hm2 (fun w => exy (List.mem_singleton.mp w)))]
  obtain ⟨-, -, -, k4⟩ := key xs.length (Nat.le_refl _)
  rw [List.take_length] at k4
  unfold plainL
  rw [k4]
  exact List.take_of_length_le (by unfold plP; rw [List.length_map]; exact Nat.le_refl _)
theorem TW.pl8 {xs : List Nat} (h : TW xs) : TW (plP xs) ∧ (plP xs).length = xs.length := by
  rw [← plainL_P h.2]
  exact h.plain
theorem matchF_TT {onto : List Nat} (wt : TW onto) (lo : onto.length ≤ 16) : ∀ (xs : List Nat) (b : Nat) (t t' : List (Option (List Nat))), TT t → matchF onto xs b t = some t' → TT t'
  | [], b, t, t', H, h => by
    rw [matchF] at h
    cases h
    exact H
  | x :: r, b, t, t', H, h => by
    rw [matchF] at h
    by_cases c1 : onto.length ≤ b
    · rw [if_pos c1] at h
      cases h
    · rw [if_neg c1] at h
      obtain ⟨-, -, s3, s4, s5⟩ := sub_ok wt lo (b := b) (by omega)
      have H2 : TT (t.set x (some (sub' onto b))) := ⟨by rw [List.length_set]; exact H.1, fun z hz => (List.mem_or_eq_of_mem_set hz).elim (H.2 z) (fun e => by cases e; exact ⟨s4, by omega⟩)⟩
      by_cases c2 : 10 ≤ x
      · rw [if_pos c2] at h
        by_cases c3 : onto[b]? = some x
        · rw [if_pos c3] at h
          exact matchF_TT wt lo r _ _ _ H h
        · rw [if_neg c3] at h
          cases h
      · rw [if_neg c2] at h
        split at h
        · split at h
          · exact matchF_TT wt lo r _ _ _ H2 h
          · cases h
        · exact matchF_TT wt lo r _ _ _ H2 h
theorem matchL_AO {one onto : List Nat} (wt : TW onto) (lo : onto.length ≤ 16) {rows : List (List Nat)} (h : matchL one onto = some rows) : AO rows := by
  unfold matchL at h
  cases e : matchF onto one 0 (List.replicate 8 none) with
  | none => rw [e] at h; cases h
  | some t =>
    rw [e] at h
    cases h
    have H := matchF_TT wt lo one 0 _ t ⟨rfl, fun z hz => by have := List.eq_of_mem_replicate hz; cases this⟩ e
    refine ⟨by unfold restT; rw [List.length_map, List.length_range], fun z hz => ?_⟩
    unfold restT at hz
    rw [List.mem_map] at hz
    obtain ⟨n, hn, rfl⟩ := hz
    have hn8 := List.mem_range.mp hn
    have hnl : n < t.length := by rw [H.1]; exact hn8
    rw [List.getD_eq_getElem?_getD, List.getElem?_eq_getElem hnl]
    show TW ((t[n]).getD [n]) ∧ _
    cases e2 : t[n] with
    | none => exact ⟨TW.name hn8, Nat.le_of_ble_eq_true rfl⟩
    | some z2 => exact H.2 z2 (by rw [← e2]; exact List.getElem_mem hnl)
/-- what names come to when two terms are made alike: by steps, by classes -/
def PEs (one other : List Nat) (E : Nat → List Nat) : Prop := ∃ G S, goF 40 one other none8 0 0 = some G ∧ G.2.2.1 = 0 ∧ runM (one ++ other) G.2.1 sN 0 [(0, one.length)] = some (S, 0, G.2.1) ∧ S1 (one ++ other) S ∧ Ac (one ++ other) S ∧ G.1 = smO (one ++ other) S ∧ ExP (one ++ other) S E
def PEc (one other : List Nat) (E : Nat → List Nat) : Prop := ∃ k S, MnK (one ++ other) one.length k ∧ AcK (one ++ other) k ∧ SKP (one ++ other) k S ∧ ExP (one ++ other) S E
def PEx (x4 : Int32) (one other : List Nat) (E : Nat → List Nat) : Prop := if x4 = 0 then PEs one other E else PEc one other E
theorem SKP.to {X : List Nat} {n1 : Nat} {k k' : Nat → Nat} (M : MnK X n1 k) (M' : MnK X n1 k') {S : SS} (H : SKP X k S) : SKP X k' S := by
  have ii : ∀ {a b : Nat}, a < X.length → b < X.length → (k a = k b ↔ k' a = k' b) := fun {a b} ha hb => M.iff M' ha hb
  constructor
  · intro x q e
    obtain ⟨h1, h2, u, h3, h4, h5, h6⟩ := H.1 x q e
    exact ⟨h1, h2, u, h3, h4, (ii h3 h2).mp h5, h6.elim Or.inl (fun w => Or.inr ⟨w.1, fun z hz ez => w.2 z hz ((ii hz h2).mpr ez)⟩)⟩
  · intro p hp hg es z hz ez
    exact H.2 p hp hg es z hz ((ii hz hp).mpr ez)
theorem PEc.uq {X : List Nat} {n1 : Nat} (hX : BX X) {k : Nat → Nat} (G : GdK X n1 k) (A : AcK X k) {S S' : SS} (H : SKP X k S) (H' : SKP X k S') {E E' : Nat → List Nat} (hE : ExP X S E) (hE' : ExP X S' E') : ∀ x, E x = E' x := by
  have sm := H.same hX G A hE
  have sm' := H'.same hX G A hE'
  obtain ⟨rk, r1, r2⟩ := id A
  have key : ∀ (n a : Nat), rk a < n → a < X.length → exF E (sub' X a) = exF E' (sub' X a) := by
    intro n
    induction n with
    | zero => intro a h; omega
    | succ n ih =>
      intro a hn ha
      by_cases hh : ∃ b, b < X.length ∧ k b = k a ∧ 10 ≤ gl X b
      · obtain ⟨b, hb, hk, hg⟩ := hh
        rw [sm a b ha hb hk.symm, sm' a b ha hb hk.symm, exF_hd hX E hb hg, exF_hd hX E' hb hg]
        congr 1
        refine cK_congr _ _ (fun i _ hi => ?_)
        have hib : i < ga X b := by omega
        have := r2 b hb i hib
        have := r1 b a hb ha hk
        exact ih _ (by omega) (ko_mono hX hb hib).2.2.2.2
      · have nh : ∀ z, z < X.length → k z = k a → gl X z < 10 := fun z hz ez => by
          rcases Nat.lt_or_ge (gl X z) 10 with c | c
          · exact c
          · exact absurd ⟨z, hz, ez, c⟩ hh
        rcases H.nm hX G hE ha (nh a ha rfl) with ⟨q1, a1, a2, a3, a4, a5⟩ | ⟨q1, a1, a2, a3, -⟩
        · rcases H'.nm hX G hE' ha (nh a ha rfl) with ⟨q2, b1, b2, b3, b4, b5⟩ | ⟨q2, b1, b2, b3, -⟩
          · have h1 := (a4 q2 b1 b2).1
            have h2 := (b4 q1 a1 a2).1
            rw [a5, b5, show gl X q1 = gl X q2 by omega]
          · exact absurd ⟨q2, b1, b2, b3⟩ hh
        · exact absurd ⟨q1, a1, a2, a3⟩ hh
  intro x
  have nE : ∀ {S : SS} {E : Nat → List Nat}, ExP X S E → S x = none → E x = [x] := fun {S E} h e => by
    have := h x
    rw [e] at this
    exact this
  by_cases hm : ∃ a, a < X.length ∧ gl X a = x
  · obtain ⟨a, ha, rfl⟩ := hm
    rcases Nat.lt_or_ge (gl X a) 10 with c | c
    · have := key _ a (Nat.lt_succ_self _) ha
      rw [exF_nm hX E ha c, exF_nm hX E' ha c] at this
      exact this
    · rw [nE hE (by
        cases es : S (gl X a) with
        | none => rfl
        | some q => have := (H.1 _ q es).1; omega), nE hE' (by
        cases es : S' (gl X a) with
        | none => rfl
        | some q => have := (H'.1 _ q es).1; omega)]
  · rw [nE hE (by
      cases es : S x with
      | none => rfl
      | some q =>
        obtain ⟨-, -, u, h3, h4, -⟩ := H.1 _ q es
        exact absurd ⟨u, h3, h4⟩ hm), nE hE' (by
      cases es : S' x with
      | none => rfl
      | some q =>
        obtain ⟨-, -, u, h3, h4, -⟩ := H'.1 _ q es
        exact absurd ⟨u, h3, h4⟩ hm)]
theorem PEx.uq {x4 : Int32} {one other : List Nat} (t1 : TW one ∧ one.length ≤ 16) (t2 : TW other ∧ other.length ≤ 16) {E E' : Nat → List Nat} (h : PEx x4 one other E) (h' : PEx x4 one other E') : ∀ x, E x = E' x := by
  obtain ⟨bY, -, -⟩ := BY_of t1 t2
  unfold PEx at h h'
  split at h
  · rename_i c
    rw [if_pos c] at h'
    obtain ⟨G, S, a1, a2, a3, a4, a5, a6, a7⟩ := h
    obtain ⟨G', S', b1, b2, b3, b4, b5, b6, b7⟩ := h'
    rw [a1] at b1
    cases b1
    rw [a3] at b3
    cases b3
    exact ExP.uq bY.1 a4 a5 a7 b7
  · rename_i c
    rw [if_neg c] at h'
    obtain ⟨k, S, a1, a2, a3, a4⟩ := h
    obtain ⟨k', S', b1, b2, b3, b4⟩ := h'
    exact PEc.uq bY.1 a1.1 a2 a3 (SKP.to b1 a1 b3) a4 b4
theorem PEx.tw {x4 : Int32} {one other : List Nat} (t1 : TW one ∧ one.length ≤ 16) (t2 : TW other ∧ other.length ≤ 16) {E : Nat → List Nat} (h : PEx x4 one other E) : ∀ x, x < 8 → TW (E x) := by
  obtain ⟨bY, -, -⟩ := BY_of t1 t2
  unfold PEx at h
  split at h
  · obtain ⟨G, S, a1, a2, a3, a4, a5, a6, a7⟩ := h
    exact ExP.tw bY.1 a4 a5 a7
  · obtain ⟨k, S, a1, a2, a3, a4⟩ := h
    exact ExP.tw bY.1 a3.s1 (a3.ac bY.1 a1.1 a2) a4
noncomputable def rowsA (x4 : Int32) (one other : List Nat) : Option (List (List Nat)) := by
  classical exact if h : ∃ E, PEx x4 one other E then some ((List.range 8).map h.choose) else none
theorem rowsA_no {x4 : Int32} {one other : List Nat} (h : ¬ ∃ E, PEx x4 one other E) : rowsA x4 one other = none := dif_neg h
theorem rowsA_yes {x4 : Int32} {one other : List Nat} (t1 : TW one ∧ one.length ≤ 16) (t2 : TW other ∧ other.length ≤ 16) {E : Nat → List Nat} (h : PEx x4 one other E) : rowsA x4 one other = some ((List.range 8).map E) := by
  unfold rowsA
  rw [dif_pos ⟨E, h⟩]
  congr 2
  funext x
  exact PEx.uq t1 t2 (Exists.choose_spec (p := fun E => PEx x4 one other E) ⟨E, h⟩) h x
/-- eight terms as they come from calls and steps -/
def MDR (F : Nat → TC) (f : Nat) (made : List (List Nat)) : Prop := made.length = 8 ∧ ∀ n, n < 8 → ∃ zs, made[n]? = some zs ∧ RP16 (F (f + n)) zs ∧ TW zs
theorem MDR.tl {F : Nat → TC} {f : Nat} {made : List (List Nat)} (H : MDR F f made) : tlA F f 8 = made.any (fun z => decide (16 < z.length)) := by
  cases e : made.any (fun z => decide (16 < z.length)) with
  | true =>
    obtain ⟨z, hz, h16⟩ := List.any_eq_true.mp e
    obtain ⟨n, hn, rfl⟩ := List.mem_iff_getElem.mp hz
    have hn8 : n < 8 := by rw [← H.1]; exact hn
    obtain ⟨zs, z1, z2, -⟩ := H.2 n hn8
    rw [List.getElem?_eq_getElem hn] at z1
    cases z1
    exact tlA_le F f (k := n) (by rw [z2.flag]; exact h16) 8 hn8
  | false =>
    refine tlA_f F f 8 (fun n hn => ?_)
    obtain ⟨zs, z1, z2, -⟩ := H.2 n hn
    rw [z2.flag]
    cases h16 : decide (16 < zs.length) with
    | false => rfl
    | true =>
      have : made.any (fun z => decide (16 < z.length)) = true := List.any_eq_true.mpr ⟨zs, List.mem_of_getElem? z1, h16⟩
      rw [this] at e
      cases e
theorem MDR.short {F : Nat → TC} {f : Nat} {made : List (List Nat)} (H : MDR F f made) (e : made.any (fun z => decide (16 < z.length)) = false) : RWX F f made := by
  refine ⟨H.1, fun n hn => ?_⟩
  obtain ⟨zs, z1, z2, z3⟩ := H.2 n hn
  have h16 : zs.length ≤ 16 := by
    rcases Nat.lt_or_ge 16 zs.length with q | q
    · have : made.any (fun z => decide (16 < z.length)) = true := List.any_eq_true.mpr ⟨zs, List.mem_of_getElem? z1, decide_eq_true q⟩
      rw [this] at e
      cases e
    · exact q
  rcases z2 with ⟨-, z2⟩ | ⟨z2, -⟩
  · exact ⟨zs, z1, z2, z3, h16⟩
  · omega
theorem FS.cg {F F' : Nat → TC} {st : ST} (H : FS F st) (e : ∀ i, i < 30 → F' i = F i) : FS F' st := by
  refine ⟨fun i hi => ?_, fun k hk => ?_⟩
  · obtain ⟨ns, h1, h2⟩ := H.1 i hi
    exact ⟨ns, h1, by rw [e i (by omega)]; exact h2⟩
  · obtain ⟨rows, h1, h2, h3⟩ := H.2 k hk
    exact ⟨rows, h1, h2, fun n hn => by
      obtain ⟨ns, g1, g2, g3⟩ := h3 n hn
      exact ⟨ns, g1, by rw [e _ (by omega)]; exact g2, g3⟩⟩
def aPlain (x1 : Int32) (st : ST) : RS := if okI 6 x1 then slS st (st.1.set (xI x1) (plP (st.1.getD (xI x1) []))) (bcF (nI (namesN (plP (st.1.getD (xI x1) []))))) else ((1, 0), st)
def aCommon (x1 x2 x3 : Int32) (st : ST) : RS := if okI 6 x1 then (if okI 6 x2 then (if okI 6 x3 then
  (if (comL (st.1.getD (xI x1) []) (st.1.getD (xI x2) [])).1.length ≤ 8 then giveS (xI x3) (comL (st.1.getD (xI x1) []) (st.1.getD (xI x2) [])).2 (nI (comL (st.1.getD (xI x1) []) (st.1.getD (xI x2) [])).2.length) st else noS st) else ((1, 0), st)) else ((1, 0), st)) else ((1, 0), st)
def toldS (k : Nat) (rows : Option (List (List Nat))) (st : ST) : RS := match rows with
  | none => slS st st.1 (Int32.ofInt (-1))
  | some rows => becA k rows st
def aMatch (x1 x2 x3 : Int32) (st : ST) : RS := if okI 6 x1 then (if okI 6 x2 then (if okI 3 x3 then
  toldS (xI x3) (matchL (st.1.getD (xI x1) []) (st.1.getD (xI x2) [])) st else ((1, 0), st)) else ((1, 0), st)) else ((1, 0), st)
noncomputable def aAlike (x1 x2 x3 x4 : Int32) (st : ST) : RS := if okI 6 x1 then (if okI 6 x2 then (if okI 3 x3 then (if x4 = 0 ∨ x4 = 1 then
  toldS (xI x3) (rowsA x4 (st.1.getD (xI x1) []) (st.1.getD (xI x2) [])) st else ((2, 0), st)) else ((1, 0), st)) else ((1, 0), st)) else ((1, 0), st)
section CSh
variable {B Q P : Nat → Nat} {ox : Nat} {kn : Int32} {d r : Int32} {h h' : AH} {F F' : Nat → TC}
/-- the class's cells after a shape was drawn -/
theorem CLS.sh (Y : LYO B Q) (C : CLS B Q P ox kn h F d r) (S : TS B Q h' F') (W : PRW h' (P 15) (Q 68) (Q 69)) (f : FrU B Q [P 15, Q 68, Q 69] h h') : CLS B Q P ox kn h' F' d r ∧ FrC h h' := by
  obtain ⟨c1, c2, c3, c4⟩ := id C
  have row0 : ∀ j, 60 ≤ j → j < 70 → ∃ vs, h (Q j) = some (107, vs) := fun j h1 h2 => by
    obtain ⟨xs, x1, -⟩ := c4.2.2.2.2 j h1 h2
    exact ⟨_, x1⟩
  obtain ⟨w15, -, e15⟩ := c4.2.2.2.1 2 (by decide)
  have hL : ∀ a ∈ [P 15, Q 68, Q 69], ∃ k vs, h a = some (k, vs) ∧ okK k := fun a ha => by
    simp only [List.mem_cons, List.not_mem_nil, or_false] at ha
    rcases ha with rfl | rfl | rfl
    · exact ⟨_, _, e15, Or.inl rfl⟩
    · obtain ⟨vs, e⟩ := row0 68 (by decide) (by decide)
      exact ⟨_, _, e, Or.inr (Or.inr rfl)⟩
    · obtain ⟨vs, e⟩ := row0 69 (by decide) (by decide)
      exact ⟨_, _, e, Or.inr (Or.inr rfl)⟩
  have nl : ∀ {a k : Nat} {vs : List Value}, h a = some (k, vs) → k ≠ 107 → a ≠ P 15 → a ∉ [P 15, Q 68, Q 69] := fun {a k vs} e h7 hne z => by
    simp only [List.mem_cons, List.not_mem_nil, or_false] at z
    rcases z with z | z | z
    · exact hne z
    · obtain ⟨ws, e2⟩ := row0 68 (by decide) (by decide)
      exact k_ne e e2 h7 z
    · obtain ⟨ws, e2⟩ := row0 69 (by decide) (by decide)
      exact k_ne e e2 h7 z
  have nq : ∀ j, 60 ≤ j → j < 70 → j ≠ 68 → j ≠ 69 → Q j ∉ [P 15, Q 68, Q 69] := fun j h1 h2 n1 n2 z => by
    obtain ⟨vs, e⟩ := row0 j h1 h2
    simp only [List.mem_cons, List.not_mem_nil, or_false] at z
    rcases z with z | z | z
    · exact k_ne e e15 (by decide) z
    · exact n1 (Y.2 _ _ h2 (by decide) z)
    · exact n2 (Y.2 _ _ h2 (by decide) z)
  refine ⟨⟨S, f.keep c1 hL c2 (by decide) (by unfold okK; decide), c3.keepU f c1 hL, ?_, f.keep c1 hL c4.2.1 (by decide) (by unfold okK; decide), f.keep c1 hL c4.2.2.1 (by decide) (by unfold okK; decide), fun k hk => ?_, fun j h1 h2 => ?_⟩, f.frC c1 hL⟩
  · obtain ⟨⟨t, e, r1⟩, -⟩ := id c4
    refine ⟨t, e, ?_⟩
    rw [f _ (fun i hi => ?_) (nl r1 (by decide) (k_ne r1 e15 (by decide)))]
    · exact r1
    · obtain ⟨-, b1, xs, b2, -⟩ := c1 i hi
      exact ⟨k_ne r1 b1 (by decide), k_ne r1 b2 (by decide)⟩
  · by_cases e : k = 2
    · subst e
      exact W.1
    · obtain ⟨w, -, w2⟩ := c4.2.2.2.1 k hk
      exact c4.prU c1 f hk (nl w2 (by decide) (c4.pne Y hk (by decide) e))
  · by_cases e4 : j = 68
    · subst e4
      obtain ⟨-, ⟨xs, x1, x2⟩, -⟩ := W
      exact ⟨xs, x1, x2⟩
    · by_cases e5 : j = 69
      · subst e5
        obtain ⟨-, -, ys, y1, y2⟩ := W
        exact ⟨ys, y1, y2⟩
      · exact c4.rowU Y c1 f h1 h2 (nq j h1 h2 e4 e5)
end CSh
section S24
variable {la : Launch} {D : va_G} {cA : Nat → ClassId} {B0 pa : Nat} {B Q P : Nat → Nat} {ox : Nat} {kn : Int32} {F : Nat → TC}
set_option maxHeartbeats 16000000 in
theorem s6_putSpareAnswerIntoR (h : AH) (Y : LYO B Q) {st : ST} (C : CLS B Q P ox kn h F st.2.2.1 st.2.2.2) (H : FS F st) (O : StO st) {k : Nat} (hk : k < 3) {made : List (List Nat)} (hm : MDR F 34 made) : CT la D cA B0 pa yX6_putSpareAnswerInto cX6_putSpareAnswerInto 2 (some .int) (rmD 5 0 0) [.ref ox, .ref (P (7 + k))] h (AP B Q P ox kn (becA k made st) h) := by
  refine CT_of (by decide +kernel) (Nat.le_of_ble_eq_true rfl) ?_
  intro p e s m args below meth c X E hr hlk hnm
  have dk : ∀ {pc : Nat} {q : Instr × Nat}, lkd DX6_putSpareAnswerInto pc = some q → decode cX6_putSpareAnswerInto pc = .ok q := lkd_ok DX6_putSpareAnswerInto_ok
  refine fst1_ok X (dk rfl) rfl ?_
  refine getf_ok X flX6_38 (dk rfl) C.2.1 rfl ?_
  have oa := C.2.2.1.2.2.2.1
  have ok := C.2.2.1.2.2.1 k hk
  refine callVR_ok (ci := 2) (T := TX0) (N := 1) (av := []) (r := []) X E (s0_isTooLong h C.1 oa) lkX0_isTooLong mlX6_230 lmX0_isTooLong lpX0_isTooLong ⟨Nat.le_of_ble_eq_true rfl, Nat.le_of_ble_eq_true rfl⟩ ⟨Nat.le_of_ble_eq_true rfl, Nat.le_of_ble_eq_true rfl⟩ rfl ⟨_, oa.2.choose_spec.1⟩ (Nat.le_of_ble_eq_true rfl) (dk rfl) ?_
  rintro _ rfl
  rw [hm.tl]
  cases e : made.any (fun z => decide (16 < z.length)) with
  | true =>
    refine br_ok X (dk rfl) rfl (show ((7 : Nat) : Int) + 8 = ((15 : Nat) : Int) from rfl) (fun q => absurd q bI_t) (fun _ => ?_)
    refine fst1_ok X (dk rfl) rfl ?_
    refine callV_ok (ci := 8) (T := TX6) (N := 14) (av := []) (r := []) X E (s6_refuse h C) lkX6_refuse mlX6_119 lmX6_refuse lpX6_refuse ⟨Nat.le_of_ble_eq_true rfl, Nat.le_of_ble_eq_true rfl⟩ ⟨Nat.le_of_ble_eq_true rfl, Nat.le_of_ble_eq_true rfl⟩ rfl C.2.1 (Nat.le_of_ble_eq_true rfl) (dk rfl) ?_
    rintro _ h1 ⟨rfl, C1, f1⟩
    have eb : becA k made st = noS st := if_pos e
    rw [eb]
    exact reti_ok X hr hlk rfl (dk rfl) (⟨rfl, rfl, ⟨F, C1, H.cnt _ _, O.cnt _ _⟩, f1⟩) (Nat.le_of_ble_eq_true rfl) (Nat.le_of_ble_eq_true rfl)
  | false =>
    refine br_ok X (dk rfl) rfl (show ((7 : Nat) : Int) + 8 = ((15 : Nat) : Int) from rfl) (fun _ => ?_) (fun q => absurd bI_f' q)
    have R := hm.short e
    iterate 2 refine fst1_ok X (dk rfl) rfl ?_
    refine getf_ok X flX6_38 (dk rfl) C.2.1 rfl ?_
    refine callVT_ok (ci := 2) (T := TX0) (N := 1) (av := [.ref (P 2)]) (r := []) X E (s0_becomeAs h Y C.1 ok oa (by omega) (fun n hn => by obtain ⟨ns, -, g2, -, g4⟩ := R.2 n hn; rw [g2, List.length_map]; exact g4)) lkX0_becomeAs mlX6_172 lmX0_becomeAs lpX0_becomeAs ⟨Nat.le_of_ble_eq_true rfl, Nat.le_of_ble_eq_true rfl⟩ ⟨Nat.le_of_ble_eq_true rfl, Nat.le_of_ble_eq_true rfl⟩ rfl ok.2.choose_spec.1 (Nat.le_of_ble_eq_true rfl) (dk rfl) (fun h1 S1 f1 => ?_)
    have C1 := C.tm Y S1 f1
    have H1 := H.setA hk O.2.2.1 (rows := made) hm.1 (fun n hn => R.2 n hn) (st.2.2.1 + Int32.ofInt 1) st.2.2.2
    have R1 : RWX (upK F (6 + 8 * k) (fun n => F (34 + n)) 8) (6 + 8 * k) made := H1.gotA hk O.2.2.1
    have ok1 := ok.keep C.1 f1
    iterate 2 refine fst1_ok X (dk rfl) rfl ?_
    refine callVR_ok (ci := 2) (T := TX0) (N := 1) (av := []) (r := [.ref ox]) X E (s0_movedCount h1 S1 ok1 R1) lkX0_movedCount mlX6_163 lmX0_movedCount lpX0_movedCount ⟨Nat.le_of_ble_eq_true rfl, Nat.le_of_ble_eq_true rfl⟩ ⟨Nat.le_of_ble_eq_true rfl, Nat.le_of_ble_eq_true rfl⟩ rfl ⟨_, ok1.2.choose_spec.1⟩ (Nat.le_of_ble_eq_true rfl) (dk rfl) ?_
    rintro _ rfl
    refine callV_ok (ci := 8) (T := TX6) (N := 14) (av := [.int (bcF (nI (movedN made 8)))]) (r := []) X E (s6_did h1 C1 _) lkX6_did mlX6_80 lmX6_did lpX6_did ⟨Nat.le_of_ble_eq_true rfl, Nat.le_of_ble_eq_true rfl⟩ ⟨Nat.le_of_ble_eq_true rfl, Nat.le_of_ble_eq_true rfl⟩ rfl C1.2.1 (Nat.le_of_ble_eq_true rfl) (dk rfl) ?_
    rintro _ h2 ⟨rfl, C2, f2⟩
    have eb : becA k made st = becS k made st := if_neg (by rw [e]; decide)
    rw [eb]
    exact reti_ok X hr hlk rfl (dk rfl) (⟨rfl, rfl, ⟨_, C2, H1, O.setA R.ao k _ _⟩, (f1.frC C.1).trans f2⟩) (Nat.le_of_ble_eq_true rfl) (Nat.le_of_ble_eq_true rfl)
set_option maxHeartbeats 32000000 in
theorem s6_plain (h : AH) (hl : la.stackTraces = false) (Y : LYO B Q) {st : ST} (C0 : StC B Q P ox kn h st) (x1 : Int32) : CTX la D cA B0 pa yX6_plain cX6_plain 3 (some .int) (rmD 7 1 6) [.ref ox, .int x1] h (AP B Q P ox kn (aPlain x1 st) h) (AX (aPlain x1 st) st h) := by
  refine CTX_of (by decide +kernel) (Nat.le_of_ble_eq_true rfl) ?_
  intro p e s m args below meth c X E hr hlk hnm ht
  have dk : ∀ {pc : Nat} {q : Instr × Nat}, lkd DX6_plain pc = some q → decode cX6_plain pc = .ok q := lkd_ok DX6_plain_ok
  obtain ⟨F, C, H, O⟩ := id C0
  iterate 2 refine fst1_ok X (dk rfl) rfl ?_
  refine callVX_ok (ci := 8) (T := TX6) (N := 14) (av := [.int x1]) (r := []) X E ht hlk (s6_termOf h hl C x1) (fun E1 h1 z => AX.one (by unfold aPlain; rw [if_neg (by rw [okI_f z.2.1]; decide)]) ⟨z.1, z.2.2⟩) lkX6_termOf mlX6_69 lmX6_termOf lpX6_termOf ⟨Nat.le_of_ble_eq_true rfl, Nat.le_of_ble_eq_true rfl⟩ ⟨Nat.le_of_ble_eq_true rfl, Nat.le_of_ble_eq_true rfl⟩ rfl C.2.1 (Nat.le_of_ble_eq_true rfl) (dk rfl) ?_
  rintro _ h1 ⟨⟨j, hj, rfl, rfl⟩, eh⟩
  obtain rfl := eh.symm
  obtain ⟨nj, sj, ej, tj, wj, lj⟩ := H.slot O hj
  iterate 2 refine fst1_ok X (dk rfl) rfl ?_
  refine getf_ok X flX6_24 (dk rfl) C.2.1 rfl ?_
  refine fst1_ok X (dk rfl) rfl ?_
  obtain ⟨wp, lp⟩ := wj.pl8
  have hrm : rmI j = 16 := if_pos (by omega)
  refine callVT_ok (ci := 7) (T := TX5) (N := 3) (av := [.ref (B j)]) (r := []) X E (s5_becomePlainOf _ Y C.1 (i := 30) (by omega) (j := j) (by omega) (by omega) tj (by rw [show rmI 30 = 16 from rfl]; exact lj)) lkX5_becomePlainOf mlX6_148 lmX5_becomePlainOf lpX5_becomePlainOf ⟨Nat.le_of_ble_eq_true rfl, Nat.le_of_ble_eq_true rfl⟩ ⟨Nat.le_of_ble_eq_true rfl, Nat.le_of_ble_eq_true rfl⟩ rfl (C.1 30 (by omega)).2.1 (Nat.le_of_ble_eq_true rfl) (dk rfl) (fun h2 S2 f2 => ?_)
  have C2 := C.tm Y S2 f2
  iterate 2 refine fst1_ok X (dk rfl) rfl ?_
  refine getf_ok X flX6_24 (dk rfl) C2.2.1 rfl ?_
  refine callVT_ok (ci := 7) (T := TX5) (N := 3) (av := [.ref (B 30)]) (r := []) X E (s5_becomeAs h2 Y S2 (i := j) (by omega) (j := 30) (by omega) (by rw [upF_self, hrm]; show ((plP nj).map nI).length ≤ 16; rw [List.length_map, lp]; exact lj)) lkX5_becomeAs mlX6_108 lmX5_becomeAs lpX5_becomeAs ⟨Nat.le_of_ble_eq_true rfl, Nat.le_of_ble_eq_true rfl⟩ ⟨Nat.le_of_ble_eq_true rfl, Nat.le_of_ble_eq_true rfl⟩ rfl (S2 j (by omega)).2.1 (Nat.le_of_ble_eq_true rfl) (dk rfl) (fun h3 S3 f3 => ?_)
  rw [upF_self] at S3
  have C3 := C2.tm Y S3 f3
  have t3 : TN (upF (upF F 30 ((plP nj).map nI, false)) j ((plP nj).map nI, false) j) (plP nj) := by rw [upF_self]; exact ⟨rfl, wp.2⟩
  iterate 2 refine fst1_ok X (dk rfl) rfl ?_
  refine callVR_ok (ci := 7) (T := TX5) (N := 3) (av := []) (r := [.ref ox]) X E (s5_allNames h3 S3 (i := j) (by omega) t3) lkX5_allNames mlX6_140 lmX5_allNames lpX5_allNames ⟨Nat.le_of_ble_eq_true rfl, Nat.le_of_ble_eq_true rfl⟩ ⟨Nat.le_of_ble_eq_true rfl, Nat.le_of_ble_eq_true rfl⟩ rfl ⟨_, (S3 j (by omega)).2.1⟩ (Nat.le_of_ble_eq_true rfl) (dk rfl) ?_
  rintro _ rfl
  refine callS_ok (av := [vI (namesN (plP nj))]) (r := [.ref ox]) X E (c_bitCount h3 _) lkJ6_bitCount_0f7a4 mlX6_143 lsJ6_bitCount_0f7a4 ⟨Nat.le_of_ble_eq_true rfl, Nat.le_of_ble_eq_true rfl⟩ ⟨Nat.le_of_ble_eq_true rfl, Nat.le_of_ble_eq_true rfl⟩ (Nat.le_of_ble_eq_true rfl) (dk rfl) ?_
  rintro v h4 ⟨rfl, eh⟩
  obtain rfl := eh.symm
  refine callV_ok (ci := 8) (T := TX6) (N := 14) (av := [.int (bcF (nI (namesN (plP nj))))]) (r := []) X E (s6_did _ C3 _) lkX6_did mlX6_80 lmX6_did lpX6_did ⟨Nat.le_of_ble_eq_true rfl, Nat.le_of_ble_eq_true rfl⟩ ⟨Nat.le_of_ble_eq_true rfl, Nat.le_of_ble_eq_true rfl⟩ rfl C3.2.1 (Nat.le_of_ble_eq_true rfl) (dk rfl) ?_
  rintro _ h5 ⟨rfl, C5, f5⟩
  have e : aPlain (nI j) st = slS st (st.1.set j (plP nj)) (bcF (nI (namesN (plP nj)))) := by
    unfold aPlain
    rw [if_pos (okI_t hj (by decide)), xI_n (by omega), getD_of sj]
  rw [e]
  refine WRX.ret ?_
  exact reti_ok X hr hlk rfl (dk rfl) (⟨rfl, rfl, ⟨_, C5, (upF_fs H (i := 30) (by omega) _).set hj O.1 _ _ _, O.set ⟨wp, by rw [lp]; exact lj⟩ j _ _⟩, ((f2.frC C.1).trans (f3.frC S2)).trans f5⟩) (Nat.le_of_ble_eq_true rfl) (Nat.le_of_ble_eq_true rfl)
set_option maxHeartbeats 32000000 in
theorem s6_common (h : AH) (hl : la.stackTraces = false) (Y : LYO B Q) {st : ST} (C0 : StC B Q P ox kn h st) (x1 x2 x3 : Int32) : CTX la D cA B0 pa yX6_common cX6_common 7 (some .int) (rmD 7 3 18) [.ref ox, .int x1, .int x2, .int x3] h (AP B Q P ox kn (aCommon x1 x2 x3 st) h) (AX (aCommon x1 x2 x3 st) st h) := by
  refine CTX_of (by decide +kernel) (Nat.le_of_ble_eq_true rfl) ?_
  intro p e s m args below meth c X E hr hlk hnm ht
  have dk : ∀ {pc : Nat} {q : Instr × Nat}, lkd DX6_common pc = some q → decode cX6_common pc = .ok q := lkd_ok DX6_common_ok
  obtain ⟨F, C, H, O⟩ := id C0
  iterate 2 refine fst1_ok X (dk rfl) rfl ?_
  refine callVX_ok (ci := 8) (T := TX6) (N := 14) (av := [.int x1]) (r := []) X E ht hlk (s6_termOf h hl C x1) (fun E1 h1 z => AX.one (by unfold aCommon; rw [if_neg (by rw [okI_f z.2.1]; decide)]) ⟨z.1, z.2.2⟩) lkX6_termOf mlX6_69 lmX6_termOf lpX6_termOf ⟨Nat.le_of_ble_eq_true rfl, Nat.le_of_ble_eq_true rfl⟩ ⟨Nat.le_of_ble_eq_true rfl, Nat.le_of_ble_eq_true rfl⟩ rfl C.2.1 (Nat.le_of_ble_eq_true rfl) (dk rfl) ?_
  rintro _ h1 ⟨⟨j, hj, rfl, rfl⟩, eh⟩
  obtain rfl := eh.symm
  iterate 3 refine fst1_ok X (dk rfl) rfl ?_
  refine callVX_ok (ci := 8) (T := TX6) (N := 14) (av := [.int x2]) (r := []) X E ht hlk (s6_termOf _ hl C x2) (fun E1 h1 z => AX.one (by unfold aCommon; rw [if_pos (okI_t hj (by decide))]; rw [if_neg (by rw [okI_f z.2.1]; decide)]) ⟨z.1, z.2.2⟩) lkX6_termOf mlX6_69 lmX6_termOf lpX6_termOf ⟨Nat.le_of_ble_eq_true rfl, Nat.le_of_ble_eq_true rfl⟩ ⟨Nat.le_of_ble_eq_true rfl, Nat.le_of_ble_eq_true rfl⟩ rfl C.2.1 (Nat.le_of_ble_eq_true rfl) (dk rfl) ?_
  rintro _ h1 ⟨⟨i, hi, rfl, rfl⟩, eh⟩
  obtain rfl := eh.symm
  iterate 3 refine fst1_ok X (dk rfl) rfl ?_
  refine callVX_ok (ci := 8) (T := TX6) (N := 14) (av := [.int x3]) (r := []) X E ht hlk (s6_termOf _ hl C x3) (fun E1 h1 z => AX.one (by unfold aCommon; rw [if_pos (okI_t hj (by decide)), if_pos (okI_t hi (by decide))]; rw [if_neg (by rw [okI_f z.2.1]; decide)]) ⟨z.1, z.2.2⟩) lkX6_termOf mlX6_69 lmX6_termOf lpX6_termOf ⟨Nat.le_of_ble_eq_true rfl, Nat.le_of_ble_eq_true rfl⟩ ⟨Nat.le_of_ble_eq_true rfl, Nat.le_of_ble_eq_true rfl⟩ rfl C.2.1 (Nat.le_of_ble_eq_true rfl) (dk rfl) ?_
  rintro _ h1 ⟨⟨k, hk, rfl, rfl⟩, eh⟩
  obtain rfl := eh.symm
  obtain ⟨nj, sj, ej, tj, wj, lj⟩ := H.slot O hj
  obtain ⟨ni, si, ei, ti, wi, li⟩ := H.slot O hi
  have hpr := C.2.2.2.prw (k := 2) (by decide)
  have hsh := C.2.2.2.2.2.1
  have ecm : aCommon (nI j) (nI i) (nI k) st = if (comL nj ni).1.length ≤ 8 then giveS k (comL nj ni).2 (nI (comL nj ni).2.length) st else noS st := by
    unfold aCommon
    rw [if_pos (okI_t hj (by decide)), if_pos (okI_t hi (by decide)), if_pos (okI_t hk (by decide)), xI_n (by omega), xI_n (by omega), xI_n (by omega), getD_of sj, getD_of si]
  iterate 2 refine fst1_ok X (dk rfl) rfl ?_
  refine getf_ok X flX6_62 (dk rfl) C.2.1 rfl ?_
  iterate 3 refine fst1_ok X (dk rfl) rfl ?_
  refine getf_ok X flX6_24 (dk rfl) C.2.1 rfl ?_
  refine callV_ok (ci := 5) (T := TX3) (N := 1) (av := [.ref (B j), .ref (B i), .ref (B 30)]) (r := []) X E (s3_drawInto _ Y hpr (hAq Y (by decide) (by decide) (by decide) (by decide)) C.1 hsh (Yne Y (by decide) (by decide) (by decide)) (i1 := j) (by omega) tj wj lj (i2 := i) (by omega) ti wi li (i3 := 30) (by omega) (by omega) (by omega)) lkX3_drawInto mlX6_159 lmX3_drawInto lpX3_drawInto ⟨Nat.le_of_ble_eq_true rfl, Nat.le_of_ble_eq_true rfl⟩ ⟨Nat.le_of_ble_eq_true rfl, Nat.le_of_ble_eq_true rfl⟩ rfl hsh (Nat.le_of_ble_eq_true rfl) (dk rfl) ?_
  rintro _ h2 ⟨rfl, W2, S2, f2⟩
  obtain ⟨C2, g2⟩ := C.sh Y S2 W2 f2
  by_cases h8 : (comL nj ni).1.length ≤ 8
  · obtain ⟨wc, lc⟩ := comL_ok wj wi lj li h8
    rw [decide_eq_true h8]
    refine br_ok X (dk rfl) rfl (show ((36 : Nat) : Int) + 12 = ((48 : Nat) : Int) from rfl) (fun q => absurd q bI_t) (fun _ => ?_)
    iterate 2 refine fst1_ok X (dk rfl) rfl ?_
    refine callV_ok (ci := 8) (T := TX6) (N := 14) (av := [.ref (B k)]) (r := []) X E (s6_putSpareInto h2 Y C2 (j := k) hk (zs := (comL nj ni).2) (by rw [upF_self, addR_short lc])) lkX6_putSpareInto mlX6_104 lmX6_putSpareInto lpX6_putSpareInto ⟨Nat.le_of_ble_eq_true rfl, Nat.le_of_ble_eq_true rfl⟩ ⟨Nat.le_of_ble_eq_true rfl, Nat.le_of_ble_eq_true rfl⟩ rfl C2.2.1 (Nat.le_of_ble_eq_true rfl) (dk rfl) ?_
    rintro v h3 G
    rw [if_pos h8] at ecm
    have Gf := gvP.ap G g2 (upF_fs H (i := 30) (by omega) _) O hk wc
    rw [← ecm] at Gf
    obtain ⟨g4, rfl, g5⟩ := Gf
    refine br_ok X (dk rfl) rfl (show ((45 : Nat) : Int) + 7 = ((52 : Nat) : Int) from rfl) (fun _ => ?_) (fun q => absurd trivial q)
    refine WRX.ret ?_
    exact reti_ok X hr hlk rfl (dk rfl) (⟨g4, rfl, g5⟩) (Nat.le_of_ble_eq_true rfl) (Nat.le_of_ble_eq_true rfl)
  · rw [decide_eq_false h8]
    refine br_ok X (dk rfl) rfl (show ((36 : Nat) : Int) + 12 = ((48 : Nat) : Int) from rfl) (fun _ => ?_) (fun q => absurd bI_f' q)
    refine fst1_ok X (dk rfl) rfl ?_
    refine callV_ok (ci := 8) (T := TX6) (N := 14) (av := []) (r := []) X E (s6_refuse h2 C2) lkX6_refuse mlX6_119 lmX6_refuse lpX6_refuse ⟨Nat.le_of_ble_eq_true rfl, Nat.le_of_ble_eq_true rfl⟩ ⟨Nat.le_of_ble_eq_true rfl, Nat.le_of_ble_eq_true rfl⟩ rfl C2.2.1 (Nat.le_of_ble_eq_true rfl) (dk rfl) ?_
    rintro _ h3 ⟨rfl, C3, f3⟩
    rw [if_neg h8] at ecm
    rw [ecm]
    refine WRX.ret ?_
    exact reti_ok X hr hlk rfl (dk rfl) (⟨rfl, rfl, ⟨_, C3, (upF_fs H (i := 30) (by omega) _).cnt _ _, O.cnt _ _⟩, g2.trans f3⟩) (Nat.le_of_ble_eq_true rfl) (Nat.le_of_ble_eq_true rfl)
set_option maxHeartbeats 32000000 in
theorem s6_match (h : AH) (hl : la.stackTraces = false) (Y : LYO B Q) {st : ST} (C0 : StC B Q P ox kn h st) (x1 x2 x3 : Int32) : CTX la D cA B0 pa yX6_match cX6_match 7 (some .int) (rmD 7 3 18) [.ref ox, .int x1, .int x2, .int x3] h (AP B Q P ox kn (aMatch x1 x2 x3 st) h) (AX (aMatch x1 x2 x3 st) st h) := by
  refine CTX_of (by decide +kernel) (Nat.le_of_ble_eq_true rfl) ?_
  intro p e s m args below meth c X E hr hlk hnm ht
  have dk : ∀ {pc : Nat} {q : Instr × Nat}, lkd DX6_match pc = some q → decode cX6_match pc = .ok q := lkd_ok DX6_match_ok
  obtain ⟨F, C, H, O⟩ := id C0
  iterate 2 refine fst1_ok X (dk rfl) rfl ?_
  refine callVX_ok (ci := 8) (T := TX6) (N := 14) (av := [.int x1]) (r := []) X E ht hlk (s6_termOf h hl C x1) (fun E1 h1 z => AX.one (by unfold aMatch; rw [if_neg (by rw [okI_f z.2.1]; decide)]) ⟨z.1, z.2.2⟩) lkX6_termOf mlX6_69 lmX6_termOf lpX6_termOf ⟨Nat.le_of_ble_eq_true rfl, Nat.le_of_ble_eq_true rfl⟩ ⟨Nat.le_of_ble_eq_true rfl, Nat.le_of_ble_eq_true rfl⟩ rfl C.2.1 (Nat.le_of_ble_eq_true rfl) (dk rfl) ?_
  rintro _ h1 ⟨⟨j, hj, rfl, rfl⟩, eh⟩
  obtain rfl := eh.symm
  iterate 3 refine fst1_ok X (dk rfl) rfl ?_
  refine callVX_ok (ci := 8) (T := TX6) (N := 14) (av := [.int x2]) (r := []) X E ht hlk (s6_termOf _ hl C x2) (fun E1 h1 z => AX.one (by unfold aMatch; rw [if_pos (okI_t hj (by decide))]; rw [if_neg (by rw [okI_f z.2.1]; decide)]) ⟨z.1, z.2.2⟩) lkX6_termOf mlX6_69 lmX6_termOf lpX6_termOf ⟨Nat.le_of_ble_eq_true rfl, Nat.le_of_ble_eq_true rfl⟩ ⟨Nat.le_of_ble_eq_true rfl, Nat.le_of_ble_eq_true rfl⟩ rfl C.2.1 (Nat.le_of_ble_eq_true rfl) (dk rfl) ?_
  rintro _ h1 ⟨⟨i, hi, rfl, rfl⟩, eh⟩
  obtain rfl := eh.symm
  iterate 3 refine fst1_ok X (dk rfl) rfl ?_
  refine callVX_ok (ci := 8) (T := TX6) (N := 14) (av := [.int x3]) (r := []) X E ht hlk (s6_answerOf _ hl C x3) (fun E1 h1 z => AX.one (by unfold aMatch; rw [if_pos (okI_t hj (by decide)), if_pos (okI_t hi (by decide))]; rw [if_neg (by rw [okI_f z.2.1]; decide)]) ⟨z.1, z.2.2⟩) lkX6_answerOf mlX6_151 lmX6_answerOf lpX6_answerOf ⟨Nat.le_of_ble_eq_true rfl, Nat.le_of_ble_eq_true rfl⟩ ⟨Nat.le_of_ble_eq_true rfl, Nat.le_of_ble_eq_true rfl⟩ rfl C.2.1 (Nat.le_of_ble_eq_true rfl) (dk rfl) ?_
  rintro _ h1 ⟨⟨k, hk, rfl, rfl⟩, eh⟩
  obtain rfl := eh.symm
  obtain ⟨nj, sj, ej, tj, wj, lj⟩ := H.slot O hj
  obtain ⟨ni, si, ei, ti, wi, li⟩ := H.slot O hi
  have oa := C.2.2.1.2.2.2.1
  have ecm : aMatch (nI j) (nI i) (nI k) st = toldS k (matchL nj ni) st := by
    unfold aMatch
    rw [if_pos (okI_t hj (by decide)), if_pos (okI_t hi (by decide)), if_pos (okI_t hk (by decide)), xI_n (by omega), xI_n (by omega), xI_n (by omega), getD_of sj, getD_of si]
  iterate 2 refine fst1_ok X (dk rfl) rfl ?_
  refine getf_ok X flX6_38 (dk rfl) C.2.1 rfl ?_
  iterate 2 refine fst1_ok X (dk rfl) rfl ?_
  refine callV_ok (ci := 2) (T := TX0) (N := 1) (av := [.ref (B j), .ref (B i)]) (r := []) X E (s0_becomeMatch _ Y C.1 oa (fun n hn => by unfold rmI; rw [if_neg (by omega), if_neg (by omega), if_pos (by omega)]) (i1 := j) (by omega) tj (by omega) (i2 := i) (by omega) ti (by omega) wi li) lkX0_becomeMatch mlX6_194 lmX0_becomeMatch lpX0_becomeMatch ⟨Nat.le_of_ble_eq_true rfl, Nat.le_of_ble_eq_true rfl⟩ ⟨Nat.le_of_ble_eq_true rfl, Nat.le_of_ble_eq_true rfl⟩ rfl oa.2.choose_spec.1 (Nat.le_of_ble_eq_true rfl) (dk rfl) ?_
  rintro _ h2 ⟨rfl, f2, G, S2, g2⟩
  have C2 := C.tm Y S2 f2
  cases eM : matchL nj ni with
  | none =>
    rw [eM] at ecm
    refine br_ok X (dk rfl) rfl (show ((32 : Nat) : Int) + 12 = ((44 : Nat) : Int) from rfl) (fun _ => ?_) (fun q => absurd bI_f' q)
    iterate 2 refine fst1_ok X (dk rfl) rfl ?_
    refine callV_ok (ci := 8) (T := TX6) (N := 14) (av := [.int (Int32.ofInt (-1))]) (r := []) X E (s6_did h2 C2 _) lkX6_did mlX6_80 lmX6_did lpX6_did ⟨Nat.le_of_ble_eq_true rfl, Nat.le_of_ble_eq_true rfl⟩ ⟨Nat.le_of_ble_eq_true rfl, Nat.le_of_ble_eq_true rfl⟩ rfl C2.2.1 (Nat.le_of_ble_eq_true rfl) (dk rfl) ?_
    rintro _ h3 ⟨rfl, C3, f3⟩
    rw [ecm]
    refine WRX.ret ?_
    exact reti_ok X hr hlk rfl (dk rfl) (⟨rfl, rfl, ⟨_, C3, (upK_fs H (by omega) _).cnt _ _, O.cnt _ _⟩, (f2.frC C.1).trans f3⟩) (Nat.le_of_ble_eq_true rfl) (Nat.le_of_ble_eq_true rfl)
  | some rows =>
    rw [eM] at ecm
    obtain ⟨ao1, ao2⟩ := matchL_AO wi li eM
    have md : MDE (upK F 34 G 8) 34 rows := ⟨ao1, fun n hn => by
      obtain ⟨zs, hz⟩ : ∃ zs, rows[n]? = some zs := ⟨_, List.getElem?_eq_getElem (by omega)⟩
      obtain ⟨z1, z2⟩ := ao2 zs (List.mem_of_getElem? hz)
      refine ⟨zs, hz, ?_, z1⟩
      rw [upK_in F 34 G hn, g2 rows eM n hn, getD_of hz, addR_short z2]⟩
    refine br_ok X (dk rfl) rfl (show ((32 : Nat) : Int) + 12 = ((44 : Nat) : Int) from rfl) (fun q => absurd q bI_t) (fun _ => ?_)
    iterate 2 refine fst1_ok X (dk rfl) rfl ?_
    refine callV_ok (ci := 8) (T := TX6) (N := 14) (av := [.ref (P (7 + k))]) (r := []) X E (s6_putSpareAnswerInto h2 Y C2 (upK_fs H (by omega) _) O hk md) lkX6_putSpareAnswerInto mlX6_179 lmX6_putSpareAnswerInto lpX6_putSpareAnswerInto ⟨Nat.le_of_ble_eq_true rfl, Nat.le_of_ble_eq_true rfl⟩ ⟨Nat.le_of_ble_eq_true rfl, Nat.le_of_ble_eq_true rfl⟩ rfl C2.2.1 (Nat.le_of_ble_eq_true rfl) (dk rfl) ?_
    rintro v h3 ⟨g4, rfl, g5, g6⟩
    refine br_ok X (dk rfl) rfl (show ((41 : Nat) : Int) + 8 = ((49 : Nat) : Int) from rfl) (fun _ => ?_) (fun q => absurd trivial q)
    rw [ecm]
    refine WRX.ret ?_
    exact reti_ok X hr hlk rfl (dk rfl) (⟨g4, rfl, g5, (f2.frC C.1).trans g6⟩) (Nat.le_of_ble_eq_true rfl) (Nat.le_of_ble_eq_true rfl)
set_option maxHeartbeats 64000000 in
theorem s6_alike (h : AH) (hl : la.stackTraces = false) (Y : LYO B Q) {st : ST} (C0 : StC B Q P ox kn h st) (x1 x2 x3 x4 : Int32) : CTX la D cA B0 pa yX6_alike cX6_alike 9 (some .int) (rmD 7 4 24) [.ref ox, .int x1, .int x2, .int x3, .int x4] h (AP B Q P ox kn (aAlike x1 x2 x3 x4 st) h) (AX (aAlike x1 x2 x3 x4 st) st h) := by
  refine CTX_of (by decide +kernel) (Nat.le_of_ble_eq_true rfl) ?_
  intro p e s m args below meth c X E hr hlk hnm ht
  have dk : ∀ {pc : Nat} {q : Instr × Nat}, lkd DX6_alike pc = some q → decode cX6_alike pc = .ok q := lkd_ok DX6_alike_ok
  obtain ⟨F, C, H, O⟩ := id C0
  iterate 2 refine fst1_ok X (dk rfl) rfl ?_
  refine callVX_ok (ci := 8) (T := TX6) (N := 14) (av := [.int x1]) (r := []) X E ht hlk (s6_termOf h hl C x1) (fun E1 h1 z => AX.one (by unfold aAlike; rw [if_neg (by rw [okI_f z.2.1]; decide)]) ⟨z.1, z.2.2⟩) lkX6_termOf mlX6_69 lmX6_termOf lpX6_termOf ⟨Nat.le_of_ble_eq_true rfl, Nat.le_of_ble_eq_true rfl⟩ ⟨Nat.le_of_ble_eq_true rfl, Nat.le_of_ble_eq_true rfl⟩ rfl C.2.1 (Nat.le_of_ble_eq_true rfl) (dk rfl) ?_
  rintro _ h1 ⟨⟨j, hj, rfl, rfl⟩, eh⟩
  obtain rfl := eh.symm
  iterate 3 refine fst1_ok X (dk rfl) rfl ?_
  refine callVX_ok (ci := 8) (T := TX6) (N := 14) (av := [.int x2]) (r := []) X E ht hlk (s6_termOf _ hl C x2) (fun E1 h1 z => AX.one (by unfold aAlike; rw [if_pos (okI_t hj (by decide))]; rw [if_neg (by rw [okI_f z.2.1]; decide)]) ⟨z.1, z.2.2⟩) lkX6_termOf mlX6_69 lmX6_termOf lpX6_termOf ⟨Nat.le_of_ble_eq_true rfl, Nat.le_of_ble_eq_true rfl⟩ ⟨Nat.le_of_ble_eq_true rfl, Nat.le_of_ble_eq_true rfl⟩ rfl C.2.1 (Nat.le_of_ble_eq_true rfl) (dk rfl) ?_
  rintro _ h1 ⟨⟨i, hi, rfl, rfl⟩, eh⟩
  obtain rfl := eh.symm
  iterate 3 refine fst1_ok X (dk rfl) rfl ?_
  refine callVX_ok (ci := 8) (T := TX6) (N := 14) (av := [.int x3]) (r := []) X E ht hlk (s6_answerOf _ hl C x3) (fun E1 h1 z => AX.one (by unfold aAlike; rw [if_pos (okI_t hj (by decide)), if_pos (okI_t hi (by decide))]; rw [if_neg (by rw [okI_f z.2.1]; decide)]) ⟨z.1, z.2.2⟩) lkX6_answerOf mlX6_151 lmX6_answerOf lpX6_answerOf ⟨Nat.le_of_ble_eq_true rfl, Nat.le_of_ble_eq_true rfl⟩ ⟨Nat.le_of_ble_eq_true rfl, Nat.le_of_ble_eq_true rfl⟩ rfl C.2.1 (Nat.le_of_ble_eq_true rfl) (dk rfl) ?_
  rintro _ h1 ⟨⟨k, hk, rfl, rfl⟩, eh⟩
  obtain rfl := eh.symm
  obtain ⟨nj, sj, ej, tj, wj, lj⟩ := H.slot O hj
  obtain ⟨ni, si, ei, ti, wi, li⟩ := H.slot O hi
  have t1 : TW nj ∧ nj.length ≤ 16 := ⟨wj, lj⟩
  have t2 : TW ni ∧ ni.length ≤ 16 := ⟨wi, li⟩
  obtain ⟨bY, -, -⟩ := BY_of t1 t2
  have hX := bY.1
  have hrm : ∀ n, n < 8 → rmI (34 + n) = 16 := fun n hn => by unfold rmI; rw [if_neg (by omega), if_neg (by omega), if_pos (by omega)]
  have ecm : x4 = 0 ∨ x4 = 1 → aAlike (nI j) (nI i) (nI k) x4 st = toldS k (rowsA x4 nj ni) st := fun h4 => by
    unfold aAlike
    rw [if_pos (okI_t hj (by decide)), if_pos (okI_t hi (by decide)), if_pos (okI_t hk (by decide)), if_pos h4, xI_n (by omega), xI_n (by omega), xI_n (by omega), getD_of sj, getD_of si]
  iterate 2 refine fst1_ok X (dk rfl) rfl ?_
  refine br_ok X (dk rfl) rfl (show ((23 : Nat) : Int) + 19 = ((42 : Nat) : Int) from rfl) (fun c0 => ?_) (fun c0 => ?_)
  · have x0 : x4 = 0 := c0
    have e4 := ecm (Or.inl x0)
    obtain ⟨Gs, Sx, q1, q2, q3, q4, q5, q6, q7⟩ := runM_ok t1 t2
    refine fst1_ok X (dk rfl) rfl ?_
    refine br_ok X (dk rfl) rfl (show ((44 : Nat) : Int) + 17 = ((61 : Nat) : Int) from rfl) (fun q => absurd x0 q) (fun _ => ?_)
    refine fst1_ok X (dk rfl) rfl ?_
    refine getf_ok X flX6_48 (dk rfl) C.2.1 rfl ?_
    iterate 2 refine fst1_ok X (dk rfl) rfl ?_
    refine callV_ok (ci := 6) (T := TX4) (N := 5) (av := [.ref (B j), .ref (B i)]) (r := []) X E (s4_makeAlike _ Y C (i1 := j) (by omega) (by omega) (i2 := i) (by omega) (by omega) tj ti t1 t2 q7 q5 q2.1) lkX4_makeAlike mlX6_185 lmX4_makeAlike lpX4_makeAlike ⟨Nat.le_of_ble_eq_true rfl, Nat.le_of_ble_eq_true rfl⟩ ⟨Nat.le_of_ble_eq_true rfl, Nat.le_of_ble_eq_true rfl⟩ rfl C.2.2.2.1.choose_spec.choose_spec (Nat.le_of_ble_eq_true rfl) (dk rfl) ?_
    rintro _ h2 ⟨rfl, f2, F2, ps, C2, eF, T2⟩
    have H2 : FS F2 st := H.cg (fun n hn => eF n (by omega))
    refine br_ok X (dk rfl) rfl (show ((58 : Nat) : Int) + 14 = ((72 : Nat) : Int) from rfl) (fun _ => ?_) (fun q => absurd trivial q)
    iterate 2 refine fst1_ok X (dk rfl) rfl ?_
    by_cases hw : Gs.2.2.1 = 0
    · rw [decide_eq_true hw]
      have ac := q6 hw
      obtain ⟨E9, hE⟩ := ExP.ex hX q3 ac
      have pe : PEx x4 nj ni E9 := by
        unfold PEx
        rw [if_pos x0]
        exact ⟨Gs, Sx, q1, hw, by rw [hw] at q7; exact q7, q3, ac, q4, hE⟩
      rw [rowsA_yes t1 t2 pe] at e4
      have oa := C2.2.2.1.2.2.2.1
      refine br_ok X (dk rfl) rfl (show ((76 : Nat) : Int) + 9 = ((85 : Nat) : Int) from rfl) (fun _ => ?_) (fun q => absurd bI_t q)
      refine fst1_ok X (dk rfl) rfl ?_
      refine br_ok X (dk rfl) rfl (show ((87 : Nat) : Int) + 17 = ((104 : Nat) : Int) from rfl) (fun q => absurd x0 q) (fun _ => ?_)
      refine fst1_ok X (dk rfl) rfl ?_
      refine getf_ok X flX6_48 (dk rfl) C2.2.1 rfl ?_
      refine fst1_ok X (dk rfl) rfl ?_
      refine getf_ok X flX6_38 (dk rfl) C2.2.1 rfl ?_
      refine callV_ok (ci := 6) (T := TX4) (N := 5) (av := [.ref (P 2)]) (r := []) X E (s4_tellInto h2 Y T2 (oo := P 2) (f := 34) oa hrm hX q3 ac hE) lkX4_tellInto mlX6_190 lmX4_tellInto lpX4_tellInto ⟨Nat.le_of_ble_eq_true rfl, Nat.le_of_ble_eq_true rfl⟩ ⟨Nat.le_of_ble_eq_true rfl, Nat.le_of_ble_eq_true rfl⟩ rfl T2.2.2.1 (Nat.le_of_ble_eq_true rfl) (dk rfl) ?_
      rintro _ h3 ⟨rfl, f3, G, S3, g2⟩
      have C3 := C2.tm Y S3 f3
      have md : MDR (upK F2 34 G 8) 34 ((List.range 8).map E9) := ⟨by rw [List.length_map, List.length_range], fun n hn => ⟨E9 n, by rw [List.getElem?_map, List.getElem?_range hn]; rfl, by rw [upK_in F2 34 G hn]; exact g2 n hn, PEx.tw t1 t2 pe n hn⟩⟩
      refine br_ok X (dk rfl) rfl (show ((101 : Nat) : Int) + 14 = ((115 : Nat) : Int) from rfl) (fun _ => ?_) (fun q => absurd trivial q)
      iterate 2 refine fst1_ok X (dk rfl) rfl ?_
      refine callV_ok (ci := 8) (T := TX6) (N := 14) (av := [.ref (P (7 + k))]) (r := []) X E (s6_putSpareAnswerIntoR h3 Y C3 (upK_fs H2 (by omega) _) O hk md) lkX6_putSpareAnswerInto mlX6_179 lmX6_putSpareAnswerInto lpX6_putSpareAnswerInto ⟨Nat.le_of_ble_eq_true rfl, Nat.le_of_ble_eq_true rfl⟩ ⟨Nat.le_of_ble_eq_true rfl, Nat.le_of_ble_eq_true rfl⟩ rfl C3.2.1 (Nat.le_of_ble_eq_true rfl) (dk rfl) ?_
      rintro v h4 ⟨g4, rfl, g5, g6⟩
      rw [e4]
      refine WRX.ret ?_
      exact reti_ok X hr hlk rfl (dk rfl) (⟨g4, rfl, g5, (f2.trans (f3.frC C2.1)).trans g6⟩) (Nat.le_of_ble_eq_true rfl) (Nat.le_of_ble_eq_true rfl)
    · rw [decide_eq_false hw]
      rw [rowsA_no (fun ⟨E9, pe⟩ => by
        unfold PEx at pe
        rw [if_pos x0] at pe
        obtain ⟨G2, S2, b1, b2, -⟩ := pe
        rw [q1] at b1
        cases b1
        exact hw b2)] at e4
      refine br_ok X (dk rfl) rfl (show ((76 : Nat) : Int) + 9 = ((85 : Nat) : Int) from rfl) (fun q => absurd q (fun z => z bI_f')) (fun _ => ?_)
      iterate 2 refine fst1_ok X (dk rfl) rfl ?_
      refine callV_ok (ci := 8) (T := TX6) (N := 14) (av := [.int (Int32.ofInt (-1))]) (r := []) X E (s6_did h2 C2 _) lkX6_did mlX6_80 lmX6_did lpX6_did ⟨Nat.le_of_ble_eq_true rfl, Nat.le_of_ble_eq_true rfl⟩ ⟨Nat.le_of_ble_eq_true rfl, Nat.le_of_ble_eq_true rfl⟩ rfl C2.2.1 (Nat.le_of_ble_eq_true rfl) (dk rfl) ?_
      rintro _ h3 ⟨rfl, C3, f3⟩
      rw [e4]
      refine WRX.ret ?_
      exact reti_ok X hr hlk rfl (dk rfl) (⟨rfl, rfl, ⟨_, C3, H2.cnt _ _, O.cnt _ _⟩, f2.trans f3⟩) (Nat.le_of_ble_eq_true rfl) (Nat.le_of_ble_eq_true rfl)
  · have x0 : ¬ x4 = 0 := c0
    iterate 2 refine fst1_ok X (dk rfl) rfl ?_
    refine br_ok X (dk rfl) rfl (show ((29 : Nat) : Int) + 13 = ((42 : Nat) : Int) from rfl) (fun c1 => ?_) (fun c1 => ?_)
    · have x1 : x4 = 1 := c1
      have e4 := ecm (Or.inr x1)
      refine fst1_ok X (dk rfl) rfl ?_
      refine br_ok X (dk rfl) rfl (show ((44 : Nat) : Int) + 17 = ((61 : Nat) : Int) from rfl) (fun _ => ?_) (fun q => absurd x0 q)
      refine fst1_ok X (dk rfl) rfl ?_
      refine getf_ok X flX6_55 (dk rfl) C.2.1 rfl ?_
      iterate 2 refine fst1_ok X (dk rfl) rfl ?_
      refine callV_ok (ci := 3) (T := TX1) (N := 5) (av := [.ref (B j), .ref (B i)]) (r := []) X E (s1_makeAlike _ Y C (i1 := j) (by omega) (by omega) (i2 := i) (by omega) (by omega) tj ti t1 t2) lkX1_makeAlike mlX6_189 lmX1_makeAlike lpX1_makeAlike ⟨Nat.le_of_ble_eq_true rfl, Nat.le_of_ble_eq_true rfl⟩ ⟨Nat.le_of_ble_eq_true rfl, Nat.le_of_ble_eq_true rfl⟩ rfl C.2.2.2.2.1 (Nat.le_of_ble_eq_true rfl) (dk rfl) ?_
      rintro _ h2 ⟨b, rfl, hb, f2, F2, C2, eF, T2⟩
      have H2 : FS F2 st := H.cg (fun n hn => eF n (by omega))
      iterate 2 refine fst1_ok X (dk rfl) rfl ?_
      cases b with
      | true =>
        obtain ⟨k9, hd, f3, ps, T3, HD, GD, AK, MK⟩ := T2 rfl
        have oa := C2.2.2.1.2.2.2.1
        refine br_ok X (dk rfl) rfl (show ((76 : Nat) : Int) + 9 = ((85 : Nat) : Int) from rfl) (fun _ => ?_) (fun q => absurd bI_t q)
        refine fst1_ok X (dk rfl) rfl ?_
        refine br_ok X (dk rfl) rfl (show ((87 : Nat) : Int) + 17 = ((104 : Nat) : Int) from rfl) (fun _ => ?_) (fun q => absurd x0 q)
        refine fst1_ok X (dk rfl) rfl ?_
        refine getf_ok X flX6_55 (dk rfl) C2.2.1 rfl ?_
        refine fst1_ok X (dk rfl) rfl ?_
        refine getf_ok X flX6_38 (dk rfl) C2.2.1 rfl ?_
        refine callV_ok (ci := 3) (T := TX1) (N := 5) (av := [.ref (P 2)]) (r := []) X E (s1_tellInto h2 Y T3 bY HD GD AK (oo := P 2) (f := 34) oa hrm) lkX1_tellInto mlX6_193 lmX1_tellInto lpX1_tellInto ⟨Nat.le_of_ble_eq_true rfl, Nat.le_of_ble_eq_true rfl⟩ ⟨Nat.le_of_ble_eq_true rfl, Nat.le_of_ble_eq_true rfl⟩ rfl T3.2.2.1 (Nat.le_of_ble_eq_true rfl) (dk rfl) ?_
        rintro _ h3 ⟨rfl, f4, S9, E9, G, f5, sk, hE, T4, g2⟩
        have C3 := C2.cl Y T4 f4
        have pe : PEx x4 nj ni E9 := by
          unfold PEx
          rw [if_neg x0]
          exact ⟨k9, S9, MK, AK, sk, hE⟩
        rw [rowsA_yes t1 t2 pe] at e4
        have md : MDR (upK F2 34 G 8) 34 ((List.range 8).map E9) := ⟨by rw [List.length_map, List.length_range], fun n hn => ⟨E9 n, by rw [List.getElem?_map, List.getElem?_range hn]; rfl, by rw [upK_in F2 34 G hn]; exact g2 n hn, PEx.tw t1 t2 pe n hn⟩⟩
        iterate 2 refine fst1_ok X (dk rfl) rfl ?_
        refine callV_ok (ci := 8) (T := TX6) (N := 14) (av := [.ref (P (7 + k))]) (r := []) X E (s6_putSpareAnswerIntoR h3 Y C3 (upK_fs H2 (by omega) _) O hk md) lkX6_putSpareAnswerInto mlX6_179 lmX6_putSpareAnswerInto lpX6_putSpareAnswerInto ⟨Nat.le_of_ble_eq_true rfl, Nat.le_of_ble_eq_true rfl⟩ ⟨Nat.le_of_ble_eq_true rfl, Nat.le_of_ble_eq_true rfl⟩ rfl C3.2.1 (Nat.le_of_ble_eq_true rfl) (dk rfl) ?_
        rintro v h4 ⟨g4, rfl, g5, g6⟩
        rw [e4]
        refine WRX.ret ?_
        exact reti_ok X hr hlk rfl (dk rfl) (⟨g4, rfl, g5, (f2.trans (f4.frC C2.1 C2.2.2.2.lcl)).trans g6⟩) (Nat.le_of_ble_eq_true rfl) (Nat.le_of_ble_eq_true rfl)
      | false =>
        rw [rowsA_no (fun ⟨E9, pe⟩ => by
          unfold PEx at pe
          rw [if_neg x0] at pe
          obtain ⟨k9, S2, b1, b2, -⟩ := pe
          have := hb.mpr ⟨k9, b1, b2⟩
          cases this)] at e4
        refine br_ok X (dk rfl) rfl (show ((76 : Nat) : Int) + 9 = ((85 : Nat) : Int) from rfl) (fun q => absurd q (fun z => z bI_f')) (fun _ => ?_)
        iterate 2 refine fst1_ok X (dk rfl) rfl ?_
        refine callV_ok (ci := 8) (T := TX6) (N := 14) (av := [.int (Int32.ofInt (-1))]) (r := []) X E (s6_did h2 C2 _) lkX6_did mlX6_80 lmX6_did lpX6_did ⟨Nat.le_of_ble_eq_true rfl, Nat.le_of_ble_eq_true rfl⟩ ⟨Nat.le_of_ble_eq_true rfl, Nat.le_of_ble_eq_true rfl⟩ rfl C2.2.1 (Nat.le_of_ble_eq_true rfl) (dk rfl) ?_
        rintro _ h3 ⟨rfl, C3, f3⟩
        rw [e4]
        refine WRX.ret ?_
        exact reti_ok X hr hlk rfl (dk rfl) (⟨rfl, rfl, ⟨_, C3, H2.cnt _ _, O.cnt _ _⟩, f2.trans f3⟩) (Nat.le_of_ble_eq_true rfl) (Nat.le_of_ble_eq_true rfl)
    · exact throwS_ok X E hl ht hlk xwX6_88 (List.mem_of_getElem? (i := 1) rfl) (dk rfl) (dk rfl) (dk rfl) (dk rfl) (dk rfl) ⟨Nat.le_of_ble_eq_true rfl, Nat.le_of_ble_eq_true rfl⟩ ⟨Nat.le_of_ble_eq_true rfl, Nat.le_of_ble_eq_true rfl⟩ (AX.two (by unfold aAlike; rw [if_pos (okI_t hj (by decide)), if_pos (okI_t hi (by decide)), if_pos (okI_t hk (by decide)), if_neg (fun z => z.elim c0 c1)]) ⟨rfl, rfl⟩)
end S24
end Uc24acts5
section Ud01f5
/-! the class, weakly, over types that keep contents: terms, answers (printed by wip/p20/genFZ.py) -/
def FZ.LR (_ : Int32) : Prop := True
theorem FZ.LR_nI {n : Nat} (_ : n ≤ 158) : LR (nI n) := trivial
theorem FZ.LR_9 : LR (Int8.ofInt (-9)).toInt32 := trivial
theorem FZ.LR_bc (x : Int32) : LR (bcF x) := trivial
theorem FZ.LR_dec {n : Nat} (_ : n ≤ 158) : LR (nI n - Int32.ofInt 1) := trivial
def FZ.letφ (L : Nat) : AC → Prop := fun c => ∃ xs : List Int32, c = (107, xs.map Value.int) ∧ xs.length = L ∧ ∀ x ∈ xs, LR x
theorem FZ.letφ_set {L : Nat} {xs : List Int32} (h1 : xs.length = L) (h2 : ∀ x ∈ xs, LR x) (j : Nat) {v : Int32} (hv : LR v) : letφ L (107, (xs.set j v).map Value.int) :=
  ⟨_, rfl, by rw [List.length_set]; exact h1, fun x hx => (List.mem_or_eq_of_mem_set hx).elim (h2 x) (fun e => by rw [e]; exact hv)⟩
/-- a cell of this type, or of a narrower one -/
def FZ.TmG : Bool → TY → Nat → Nat → Nat → Prop
  | true, Γ, b, q, L => Γ b = some (termφ q L)
  | false, Γ, b, q, L => ∃ φ, Γ b = some φ ∧ ∀ c, φ c → termφ q L c
def FZ.LtG : Bool → TY → Nat → Nat → Prop
  | true, Γ, q, L => Γ q = some (letφ L)
  | false, Γ, q, L => ∃ φ, Γ q = some φ ∧ ∀ c, φ c → letφ L c
def FZ.TermG (w : Bool) (Γ : TY) (b L : Nat) : Prop := L ≤ 256 ∧ ∃ q, TmG w Γ b q L ∧ LtG w Γ q L
abbrev FZ.TermT (Γ : TY) (b L : Nat) : Prop := TermG true Γ b L
def FZ.AnsG (w : Bool) (Γ : TY) (b : Nat) : Prop := ∃ (arr : Nat) (ts : List Nat), Γ b = some (isφ (2, [.ref arr])) ∧ Γ arr = some (isφ (103, ts.map Value.ref)) ∧ ts.length = 8 ∧ ∀ t ∈ ts, TermG w Γ t 16
def FZ.StepsT (Γ : TY) (b : Nat) : Prop := ∃ bo st pr, Γ b = some (stepφ bo st pr) ∧ TermT Γ bo 32 ∧ Γ st = some (rowφ 8) ∧ PairsT Γ pr
def FZ.ClassT (Γ : TY) (b : Nat) : Prop := ∃ bo co ho st pr, Γ b = some (isφ (3, [.ref bo, .ref co, .ref ho, .ref st, .ref pr])) ∧ TermT Γ bo 32 ∧ Γ co = some (rowφ 32) ∧ Γ ho = some (rowφ 32) ∧ Γ st = some (rowφ 8) ∧ PairsT Γ pr
def FZ.BmC (Γ : TY) (b S A sp os wd ow sa oa bs bc sh : Nat) (kn : Int32) : Prop := ∃ φ, Γ b = some φ ∧ ∀ c, φ c → objφ S A sp os wd ow sa oa bs bc sh kn c
def FZ.BmT (Γ : TY) (b : Nat) (kn : Int32) : Prop := ∃ (S A sp os wd ow sa oa bs bc sh : Nat) (ss as : List Nat), BmC Γ b S A sp os wd ow sa oa bs bc sh kn ∧ Γ S = some (isφ (103, ss.map Value.ref)) ∧ Γ A = some (isφ (104, as.map Value.ref)) ∧ ss.length = 6 ∧ (∀ t ∈ ss, TermG false Γ t 16) ∧ as.length = 3 ∧ (∀ t ∈ as, AnsG false Γ t) ∧
  TermT Γ sp 16 ∧ TermT Γ os 16 ∧ TermT Γ wd 256 ∧ TermT Γ ow 256 ∧ AnsG true Γ sa ∧ AnsG true Γ oa ∧ StepsT Γ bs ∧ ClassT Γ bc ∧ ShapeT Γ sh
theorem FZ.tm_open {w : Bool} {Γ : TY} {h : AH} (I : Tyg Γ h) {b q L : Nat} (g : TmG w Γ b q L) : ∃ (f : Nat) (t : Bool), h b = some (7, [.ref q, vI f, .int (bI t)]) ∧ f ≤ L := by
  cases w with
  | true =>
    obtain ⟨c, hc, f, t, rfl, hf⟩ := I _ _ g
    exact ⟨f, t, hc, hf⟩
  | false =>
    obtain ⟨φ, g1, g2⟩ := g
    obtain ⟨c, hc, hp⟩ := I _ _ g1
    obtain ⟨f, t, rfl, hf⟩ := g2 _ hp
    exact ⟨f, t, hc, hf⟩
theorem FZ.lt_open {w : Bool} {Γ : TY} {h : AH} (I : Tyg Γ h) {q L : Nat} (g : LtG w Γ q L) : ∃ xs : List Int32, h q = some (107, xs.map Value.int) ∧ xs.length = L ∧ ∀ x ∈ xs, LR x := by
  cases w with
  | true =>
    obtain ⟨c, hc, xs, rfl, h1, h2⟩ := I _ _ g
    exact ⟨xs, hc, h1, h2⟩
  | false =>
    obtain ⟨φ, g1, g2⟩ := g
    obtain ⟨c, hc, hp⟩ := I _ _ g1
    obtain ⟨xs, rfl, h1, h2⟩ := g2 _ hp
    exact ⟨xs, hc, h1, h2⟩
theorem FZ.tm_cell {w : Bool} {Γ : TY} {h : AH} (I : Tyg Γ h) {b q L : Nat} (g : TmG w Γ b q L) : ∃ fs, h b = some (7, fs) := by
  obtain ⟨f, t, h1, -⟩ := tm_open I g
  exact ⟨_, h1⟩
theorem FZ.bm_open {Γ : TY} {h : AH} (I : Tyg Γ h) {b S A sp os wd ow sa oa bs bc sh : Nat} {kn : Int32} (g : BmC Γ b S A sp os wd ow sa oa bs bc sh kn) : ∃ d r : Int32, h b = some (8, [.ref S, .ref A, .int d, .int r, .int kn, .ref sp, .ref os, .ref wd, .ref ow, .ref sa, .ref oa, .ref bs, .ref bc, .ref sh]) := by
  obtain ⟨φ, g1, g2⟩ := g
  obtain ⟨c, hc, hp⟩ := I _ _ g1
  obtain ⟨d, r, rfl⟩ := g2 _ hp
  exact ⟨d, r, hc⟩
theorem FZ.bm_cell {Γ : TY} {h : AH} (I : Tyg Γ h) {b S A sp os wd ow sa oa bs bc sh : Nat} {kn : Int32} (g : BmC Γ b S A sp os wd ow sa oa bs bc sh kn) : ∃ fs, h b = some (8, fs) := by
  obtain ⟨d, r, h1⟩ := bm_open I g
  exact ⟨_, h1⟩
def FZ.lP (v : Option Value) : Prop := ∃ x : Int32, LR x ∧ v = some (.int x)
section M88
variable {la : Launch} {D : va_G} {cA : Nat → ClassId} {B0 pa : Nat} {Γ : TY}
set_option maxHeartbeats 4000000 in
theorem FZ.c5_length (h : AH) (I : Tyg Γ h) {o0 L0 : Nat} {w0 : Bool} (T0 : TermG w0 Γ o0 L0) : CT la D cA B0 pa yX5_length cX5_length 1 (some .int) (rmD 0 0 0) [.ref o0] h (RdO (nP L0) h) := by
  refine CT_of (by decide +kernel) (Nat.le_of_ble_eq_true rfl) ?_
  intro p e s m args below meth c X E hr hlk hnm
  have dk : ∀ {pc : Nat} {q : Instr × Nat}, lkd DX5_length pc = some q → decode cX5_length pc = .ok q := lkd_ok DX5_length_ok
  obtain ⟨hL2, q1, gb3, gl4⟩ := id T0
  refine fst1_ok X (dk rfl) rfl ?_
  obtain ⟨f5, t6, hx7, hf8⟩ := tm_open (TI.rf I).1 gb3
  refine getf_ok X flX5_21 (dk rfl) hx7 rfl ?_
  exact reti_ok X hr hlk rfl (dk rfl) ⟨⟨_, hf8, rfl⟩, rfl⟩ (Nat.le_of_ble_eq_true rfl) (Nat.le_of_ble_eq_true rfl)
set_option maxHeartbeats 4000000 in
theorem FZ.c5_isTooLong (h : AH) (I : Tyg Γ h) {o0 L0 : Nat} {w0 : Bool} (T0 : TermG w0 Γ o0 L0) : CT la D cA B0 pa yX5_isTooLong cX5_isTooLong 1 (some .boolean) (rmD 0 0 0) [.ref o0] h (RdO bP h) := by
  refine CT_of (by decide +kernel) (Nat.le_of_ble_eq_true rfl) ?_
  intro p e s m args below meth c X E hr hlk hnm
  have dk : ∀ {pc : Nat} {q : Instr × Nat}, lkd DX5_isTooLong pc = some q → decode cX5_isTooLong pc = .ok q := lkd_ok DX5_isTooLong_ok
  obtain ⟨hL2, q1, gb3, gl4⟩ := id T0
  refine fst1_ok X (dk rfl) rfl ?_
  obtain ⟨f5, t6, hx7, hf8⟩ := tm_open (TI.rf I).1 gb3
  refine getf_ok X flX5_25 (dk rfl) hx7 rfl ?_
  exact reti_ok X hr hlk (bI_n t6) (dk rfl) ⟨⟨t6, rfl⟩, rfl⟩ (Nat.le_of_ble_eq_true rfl) (Nat.le_of_ble_eq_true rfl)
set_option maxHeartbeats 4000000 in
theorem FZ.c5_hasPlace (h : AH) (I : Tyg Γ h) {o0 L0 : Nat} {w0 : Bool} (T0 : TermG w0 Γ o0 L0) (x1 : Int32) : CT la D cA B0 pa yX5_hasPlace cX5_hasPlace 2 (some .boolean) (rmD 0 0 0) [.ref o0, .int (x1)] h (RdO bP h) := by
  refine CT_of (by decide +kernel) (Nat.le_of_ble_eq_true rfl) ?_
  intro p e s m args below meth c X E hr hlk hnm
  have dk : ∀ {pc : Nat} {q : Instr × Nat}, lkd DX5_hasPlace pc = some q → decode cX5_hasPlace pc = .ok q := lkd_ok DX5_hasPlace_ok
  obtain ⟨hL2, q1, gb3, gl4⟩ := id T0
  refine fst1_ok X (dk rfl) rfl ?_
  refine br_ok X (dk rfl) rfl (show ((1 : Nat) : Int) + 15 = ((16 : Nat) : Int) from rfl) (fun c5 => ?_) (fun c6 => ?_)
  · refine fst1_ok X (dk rfl) rfl ?_
    exact reti_ok X hr hlk (bI_n false) (dk rfl) ⟨⟨false, rfl⟩, rfl⟩ (Nat.le_of_ble_eq_true rfl) (Nat.le_of_ble_eq_true rfl)
  · iterate 2 refine fst1_ok X (dk rfl) rfl ?_
    obtain ⟨f7, t8, hx9, hf10⟩ := tm_open (TI.rf I).1 gb3
    refine getf_ok X flX5_21 (dk rfl) hx9 rfl ?_
    refine br_ok X (dk rfl) rfl (show ((9 : Nat) : Int) + 7 = ((16 : Nat) : Int) from rfl) (fun c11 => ?_) (fun c12 => ?_)
    · refine fst1_ok X (dk rfl) rfl ?_
      exact reti_ok X hr hlk (bI_n false) (dk rfl) ⟨⟨false, rfl⟩, rfl⟩ (Nat.le_of_ble_eq_true rfl) (Nat.le_of_ble_eq_true rfl)
    · refine fst1_ok X (dk rfl) rfl ?_
      refine br_ok X (dk rfl) rfl (show ((13 : Nat) : Int) + 4 = ((17 : Nat) : Int) from rfl) (fun _ => ?_) (fun q => absurd trivial q)
      exact reti_ok X hr hlk (bI_n true) (dk rfl) ⟨⟨true, rfl⟩, rfl⟩ (Nat.le_of_ble_eq_true rfl) (Nat.le_of_ble_eq_true rfl)
set_option maxHeartbeats 4000000 in
theorem FZ.c5_letterAt (h : AH) (I : Tyg Γ h) {o0 L0 : Nat} {w0 : Bool} (T0 : TermG w0 Γ o0 L0) (x1 : Int32) : CT la D cA B0 pa yX5_letterAt cX5_letterAt 2 (some .int) (rmD 0 0 0) [.ref o0, .int (x1)] h (RdO lP h) := by
  refine CT_of (by decide +kernel) (Nat.le_of_ble_eq_true rfl) ?_
  intro p e s m args below meth c X E hr hlk hnm
  have dk : ∀ {pc : Nat} {q : Instr × Nat}, lkd DX5_letterAt pc = some q → decode cX5_letterAt pc = .ok q := lkd_ok DX5_letterAt_ok
  obtain ⟨hL2, q1, gb3, gl4⟩ := id T0
  refine fst1_ok X (dk rfl) rfl ?_
  refine br_ok X (dk rfl) rfl (show ((1 : Nat) : Int) + 29 = ((30 : Nat) : Int) from rfl) (fun c5 => ?_) (fun c6 => ?_)
  · refine fst1_ok X (dk rfl) rfl ?_
    exact reti_ok X hr hlk rfl (dk rfl) ⟨⟨_, LR_9, rfl⟩, rfl⟩ (Nat.le_of_ble_eq_true rfl) (Nat.le_of_ble_eq_true rfl)
  · iterate 2 refine fst1_ok X (dk rfl) rfl ?_
    obtain ⟨f7, t8, hx9, hf10⟩ := tm_open (TI.rf I).1 gb3
    refine getf_ok X flX5_21 (dk rfl) hx9 rfl ?_
    refine br_ok X (dk rfl) rfl (show ((9 : Nat) : Int) + 21 = ((30 : Nat) : Int) from rfl) (fun c11 => ?_) (fun c12 => ?_)
    · refine fst1_ok X (dk rfl) rfl ?_
      exact reti_ok X hr hlk rfl (dk rfl) ⟨⟨_, LR_9, rfl⟩, rfl⟩ (Nat.le_of_ble_eq_true rfl) (Nat.le_of_ble_eq_true rfl)
    · iterate 2 refine fst1_ok X (dk rfl) rfl ?_
      refine getf_ok X flX5_15 (dk rfl) hx9 rfl ?_
      obtain ⟨xs13, hx14, hn15, hr16⟩ := lt_open (TI.rf I).1 gl4
      refine alen7_ok X (dk rfl) hx14 hn15 ?_
      refine br_ok X (dk rfl) rfl (show ((18 : Nat) : Int) + 12 = ((30 : Nat) : Int) from rfl) (fun c17 => ?_) (fun c18 => ?_)
      · refine fst1_ok X (dk rfl) rfl ?_
        exact reti_ok X hr hlk rfl (dk rfl) ⟨⟨_, LR_9, rfl⟩, rfl⟩ (Nat.le_of_ble_eq_true rfl) (Nat.le_of_ble_eq_true rfl)
      · refine fst1_ok X (dk rfl) rfl ?_
        refine getf_ok X flX5_15 (dk rfl) hx9 rfl ?_
        refine fst1_ok X (dk rfl) rfl ?_
        refine ald7_ok X (dk rfl) hx14 c6 (by rw [hn15]; exact ix_ok (by omega) c6 c18) (fun x19 hm20 => ?_)
        refine br_ok X (dk rfl) rfl (show ((27 : Nat) : Int) + 5 = ((32 : Nat) : Int) from rfl) (fun _ => ?_) (fun q => absurd trivial q)
        exact reti_ok X hr hlk rfl (dk rfl) ⟨⟨_, (hr16 _ hm20), rfl⟩, rfl⟩ (Nat.le_of_ble_eq_true rfl) (Nat.le_of_ble_eq_true rfl)
set_option maxHeartbeats 4000000 in
theorem FZ.c5_empty (h : AH) (I : Tyg Γ h) {o0 L0 : Nat} (T0 : TermG true Γ o0 L0) : CT la D cA B0 pa yX5_empty cX5_empty 1 none (rmD 0 0 0) [.ref o0] h (WrO Γ voidP h) := by
  refine CT_of (by decide +kernel) (Nat.le_of_ble_eq_true rfl) ?_
  intro p e s m args below meth c X E hr hlk hnm
  have dk : ∀ {pc : Nat} {q : Instr × Nat}, lkd DX5_empty pc = some q → decode cX5_empty pc = .ok q := lkd_ok DX5_empty_ok
  obtain ⟨hL2, q1, gb3, gl4⟩ := id T0
  iterate 2 refine fst1_ok X (dk rfl) rfl ?_
  obtain ⟨f5, t6, hx7, hf8⟩ := tm_open (TI.rf I).1 gb3
  refine putT_ok X flX5_21 ftX5_1 rfl rfl (dk rfl) hx7 (Nat.le_of_ble_eq_true rfl) (TI.rf I) gb3 rfl (tm_zero hf8) (fun h9 J10 hx11 ho12 => ?_)
  iterate 2 refine fst1_ok X (dk rfl) rfl ?_
  refine putT_ok X flX5_25 ftX5_2 (by decide +kernel) (by decide +kernel) (dk rfl) hx11 (Nat.le_of_ble_eq_true rfl) J10 gb3 rfl tm_long00 (fun h13 J14 hx15 ho16 => ?_)
  exact retv_ok X hr hlk (dk rfl) ⟨rfl, J14⟩ (Nat.le_of_ble_eq_true rfl) (Nat.le_of_ble_eq_true rfl)
set_option maxHeartbeats 4000000 in
theorem FZ.c5_add (h : AH) (I : Tyg Γ h) {o0 L0 : Nat} (T0 : TermG true Γ o0 L0) (x1 : Int32) (hx1 : LR x1) : CT la D cA B0 pa yX5_add cX5_add 2 none (rmD 0 0 0) [.ref o0, .int (x1)] h (WrO Γ voidP h) := by
  refine CT_of (by decide +kernel) (Nat.le_of_ble_eq_true rfl) ?_
  intro p e s m args below meth c X E hr hlk hnm
  have dk : ∀ {pc : Nat} {q : Instr × Nat}, lkd DX5_add pc = some q → decode cX5_add pc = .ok q := lkd_ok DX5_add_ok
  obtain ⟨hL2, q1, gb3, gl4⟩ := id T0
  refine fst1_ok X (dk rfl) rfl ?_
  obtain ⟨f5, t6, hx7, hf8⟩ := tm_open (TI.rf I).1 gb3
  refine getf_ok X flX5_21 (dk rfl) hx7 rfl ?_
  refine br_ok X (dk rfl) rfl (show ((4 : Nat) : Int) + 38 = ((42 : Nat) : Int) from rfl) (fun c9 => ?_) (fun c10 => ?_)
  · iterate 2 refine fst1_ok X (dk rfl) rfl ?_
    refine putT_ok X flX5_25 ftX5_2 (by decide +kernel) (by decide +kernel) (dk rfl) hx7 (Nat.le_of_ble_eq_true rfl) (TI.rf I) gb3 rfl (tm_long1 hf8) (fun h11 J12 hx13 ho14 => ?_)
    exact retv_ok X hr hlk (dk rfl) ⟨rfl, J12⟩ (Nat.le_of_ble_eq_true rfl) (Nat.le_of_ble_eq_true rfl)
  · refine fst1_ok X (dk rfl) rfl ?_
    refine getf_ok X flX5_21 (dk rfl) hx7 rfl ?_
    refine fst1_ok X (dk rfl) rfl ?_
    refine getf_ok X flX5_15 (dk rfl) hx7 rfl ?_
    obtain ⟨xs15, hx16, hn17, hr18⟩ := lt_open (TI.rf I).1 gl4
    refine alen7_ok X (dk rfl) hx16 hn17 ?_
    refine br_ok X (dk rfl) rfl (show ((16 : Nat) : Int) + 26 = ((42 : Nat) : Int) from rfl) (fun c19 => ?_) (fun c20 => ?_)
    · iterate 2 refine fst1_ok X (dk rfl) rfl ?_
      refine putT_ok X flX5_25 ftX5_2 (by decide +kernel) (by decide +kernel) (dk rfl) hx7 (Nat.le_of_ble_eq_true rfl) (TI.rf I) gb3 rfl (tm_long1 hf8) (fun h21 J22 hx23 ho24 => ?_)
      have hx25 := (ho24 q1 (k_ne hx16 hx7 (by decide))).trans hx16
      exact retv_ok X hr hlk (dk rfl) ⟨rfl, J22⟩ (Nat.le_of_ble_eq_true rfl) (Nat.le_of_ble_eq_true rfl)
    · refine fst1_ok X (dk rfl) rfl ?_
      refine getf_ok X flX5_15 (dk rfl) hx7 rfl ?_
      refine fst1_ok X (dk rfl) rfl ?_
      refine getf_ok X flX5_21 (dk rfl) hx7 rfl ?_
      refine fst1_ok X (dk rfl) rfl ?_
      refine astT_ok X (dk rfl) hx16 (nI_pos (by omega)) (by rw [hn17]; exact ix_ok (by omega) (nI_pos (by omega)) c20) (TI.rf I) gl4 (letφ_set hn17 hr18 _ hx1) (fun h26 J27 ho28 => ?_)
      have hx29 := (ho28 o0 (k_ne hx7 hx16 (by decide))).trans hx7
      iterate 2 refine fst1_ok X (dk rfl) rfl ?_
      refine getf_ok X flX5_21 (dk rfl) hx29 rfl ?_
      iterate 2 refine fst1_ok X (dk rfl) rfl ?_
      refine putT_ok X flX5_21 ftX5_1 rfl rfl (dk rfl) hx29 (Nat.le_of_ble_eq_true rfl) J27 gb3 rfl (tm_more (nat_lt (by omega) c20)) (fun h30 J31 hx32 ho33 => ?_)
      refine br_ok X (dk rfl) rfl (show ((39 : Nat) : Int) + 8 = ((47 : Nat) : Int) from rfl) (fun _ => ?_) (fun q => absurd trivial q)
      exact retv_ok X hr hlk (dk rfl) ⟨rfl, J31⟩ (Nat.le_of_ble_eq_true rfl) (Nat.le_of_ble_eq_true rfl)
set_option maxHeartbeats 4000000 in
theorem FZ.c5_addRow (h : AH) (I : Tyg Γ h) {o0 L0 : Nat} (T0 : TermG true Γ o0 L0) {o1 L1 : Nat} {w1 : Bool} (T1 : TermG w1 Γ o1 L1) (x2 : Int32) (x3 : Int32) : CT la D cA B0 pa yX5_addRow cX5_addRow 5 none (rmD 1 0 0) [.ref o0, .ref o1, .int (x2), .int (x3)] h (WrO Γ voidP h) := by
  refine CT_of (by decide +kernel) (Nat.le_of_ble_eq_true rfl) ?_
  intro p e s m args below meth c X E hr hlk hnm
  have dk : ∀ {pc : Nat} {q : Instr × Nat}, lkd DX5_addRow pc = some q → decode cX5_addRow pc = .ok q := lkd_ok DX5_addRow_ok
  obtain ⟨hL2, q1, gb3, gl4⟩ := id T0
  obtain ⟨hL6, q5, gb7, gl8⟩ := id T1
  have L3 : ∀ j9 : Int32, ∀ (h13 : AH) (J14 : TI Γ h h13) (l : List (Nat × Value)), lsel l [4, 3, 1, 0] = [(4, .int (j9)), (3, .int (x3)), (1, .ref o1), (0, .ref o0)] → WR p la e (rmD 1 0 0) s m args below meth c D cA B0 5 (WrO Γ voidP h) 3 l [] h13 0 0 := by
    refine loopUp (fun j9 ih3 => ?_)
    intro h13 J14 l hl
    refine WS.sel [4, 3, 1, 0] hl ?_
    iterate 2 refine fst1_ok X (dk rfl) rfl ?_
    refine br_ok X (dk rfl) rfl (show ((6 : Nat) : Int) + 19 = ((25 : Nat) : Int) from rfl) (fun c15 => ?_) (fun c16 => ?_)
    · exact retv_ok X hr hlk (dk rfl) ⟨rfl, J14⟩ (Nat.le_of_ble_eq_true rfl) (Nat.le_of_ble_eq_true rfl)
    · iterate 3 refine fst1_ok X (dk rfl) rfl ?_
      refine callVR_ok (ci := 7) (T := TX5) (N := 3) (av := [.int _]) (r := [_]) X E (c5_letterAt _ J14.1 T1 _) lkX5_letterAt mlX5_29 lmX5_letterAt lpX5_letterAt ⟨Nat.le_of_ble_eq_true rfl, Nat.le_of_ble_eq_true rfl⟩ ⟨Nat.le_of_ble_eq_true rfl, Nat.le_of_ble_eq_true rfl⟩ rfl (tm_cell J14.1 gb7) (Nat.le_of_ble_eq_true rfl) (dk rfl) ?_
      rintro _ ⟨x17, hx18, rfl⟩
      refine callVW_ok (ci := 7) (T := TX5) (N := 3) (av := [.int _]) (r := []) X E J14 (c5_add _ J14.1 T0 _ hx18) lkX5_add mlX5_33 lmX5_add lpX5_add ⟨Nat.le_of_ble_eq_true rfl, Nat.le_of_ble_eq_true rfl⟩ ⟨Nat.le_of_ble_eq_true rfl, Nat.le_of_ble_eq_true rfl⟩ rfl (tm_cell J14.1 gb3) (Nat.le_of_ble_eq_true rfl) (dk rfl) ?_
      rintro _ h19 rfl J20
      refine fst1_ok X (dk rfl) rfl ?_
      refine br_ok X (dk rfl) rfl (show ((22 : Nat) : Int) + (-19) = ((3 : Nat) : Int) from rfl) (fun _ => ?_) (fun q => absurd trivial q)
      exact ih3 _ (nlt_of c16) h19 J20 _ rfl
  iterate 2 refine fst1_ok X (dk rfl) rfl ?_
  exact L3 _ h (TI.rf I) _ rfl
set_option maxHeartbeats 4000000 in
theorem FZ.c5_addTerm (h : AH) (I : Tyg Γ h) {o0 L0 : Nat} (T0 : TermG true Γ o0 L0) {o1 L1 : Nat} {w1 : Bool} (T1 : TermG w1 Γ o1 L1) : CT la D cA B0 pa yX5_addTerm cX5_addTerm 3 none (rmD 1 0 0) [.ref o0, .ref o1] h (WrO Γ voidP h) := by
  refine CT_of (by decide +kernel) (Nat.le_of_ble_eq_true rfl) ?_
  intro p e s m args below meth c X E hr hlk hnm
  have dk : ∀ {pc : Nat} {q : Instr × Nat}, lkd DX5_addTerm pc = some q → decode cX5_addTerm pc = .ok q := lkd_ok DX5_addTerm_ok
  obtain ⟨hL2, q1, gb3, gl4⟩ := id T0
  obtain ⟨hL6, q5, gb7, gl8⟩ := id T1
  have L25 : ∀ (h11 : AH) (J12 : TI Γ h h11) (l : List (Nat × Value)), lsel l [1, 0] = [(1, .ref o1), (0, .ref o0)] → WR p la e (rmD 1 0 0) s m args below meth c D cA B0 3 (WrO Γ voidP h) 25 l [] h11 0 0 := by
    intro h11 J12 l hl
    refine WS.sel [1, 0] hl ?_
    iterate 2 refine fst1_ok X (dk rfl) rfl ?_
    obtain ⟨f13, t14, hx15, hf16⟩ := tm_open J12.1 gb3
    refine getf_ok X flX5_25 (dk rfl) hx15 rfl ?_
    refine br_ok X (dk rfl) rfl (show ((30 : Nat) : Int) + 10 = ((40 : Nat) : Int) from rfl) (fun c17 => ?_) (fun c18 => ?_)
    · refine fst1_ok X (dk rfl) rfl ?_
      refine br_ok X (dk rfl) rfl (show ((41 : Nat) : Int) + 4 = ((45 : Nat) : Int) from rfl) (fun _ => ?_) (fun q => absurd trivial q)
      refine putT_ok X flX5_25 ftX5_2 (by decide +kernel) (by decide +kernel) (dk rfl) hx15 (Nat.le_of_ble_eq_true rfl) J12 gb3 rfl (tm_long1 hf16) (fun h19 J20 hx21 ho22 => ?_)
      exact retv_ok X hr hlk (dk rfl) ⟨rfl, J20⟩ (Nat.le_of_ble_eq_true rfl) (Nat.le_of_ble_eq_true rfl)
    · refine fst1_ok X (dk rfl) rfl ?_
      obtain ⟨f23, t24, hx25, hf26⟩ := tm_open J12.1 gb7
      refine getf_ok X flX5_25 (dk rfl) hx25 rfl ?_
      refine br_ok X (dk rfl) rfl (show ((37 : Nat) : Int) + 7 = ((44 : Nat) : Int) from rfl) (fun c27 => ?_) (fun c28 => ?_)
      · refine fst1_ok X (dk rfl) rfl ?_
        refine putT_ok X flX5_25 ftX5_2 (by decide +kernel) (by decide +kernel) (dk rfl) hx15 (Nat.le_of_ble_eq_true rfl) J12 gb3 rfl (tm_long0 hf16) (fun h29 J30 hx31 ho32 => ?_)
        exact retv_ok X hr hlk (dk rfl) ⟨rfl, J30⟩ (Nat.le_of_ble_eq_true rfl) (Nat.le_of_ble_eq_true rfl)
      · refine fst1_ok X (dk rfl) rfl ?_
        refine br_ok X (dk rfl) rfl (show ((41 : Nat) : Int) + 4 = ((45 : Nat) : Int) from rfl) (fun _ => ?_) (fun q => absurd trivial q)
        refine putT_ok X flX5_25 ftX5_2 (by decide +kernel) (by decide +kernel) (dk rfl) hx15 (Nat.le_of_ble_eq_true rfl) J12 gb3 rfl (tm_long1 hf16) (fun h33 J34 hx35 ho36 => ?_)
        exact retv_ok X hr hlk (dk rfl) ⟨rfl, J34⟩ (Nat.le_of_ble_eq_true rfl) (Nat.le_of_ble_eq_true rfl)
  have L2 : ∀ j37 : Int32, ∀ (h40 : AH) (J41 : TI Γ h h40) (l : List (Nat × Value)), lsel l [2, 1, 0] = [(2, .int (j37)), (1, .ref o1), (0, .ref o0)] → WR p la e (rmD 1 0 0) s m args below meth c D cA B0 3 (WrO Γ voidP h) 2 l [] h40 0 0 := by
    refine loopUp (fun j37 ih2 => ?_)
    intro h40 J41 l hl
    refine WS.sel [2, 1, 0] hl ?_
    iterate 2 refine fst1_ok X (dk rfl) rfl ?_
    obtain ⟨f42, t43, hx44, hf45⟩ := tm_open J41.1 gb7
    refine getf_ok X flX5_21 (dk rfl) hx44 rfl ?_
    refine br_ok X (dk rfl) rfl (show ((7 : Nat) : Int) + 18 = ((25 : Nat) : Int) from rfl) (fun c46 => ?_) (fun c47 => ?_)
    · exact L25 h40 J41 _ rfl
    · iterate 3 refine fst1_ok X (dk rfl) rfl ?_
      refine callVR_ok (ci := 7) (T := TX5) (N := 3) (av := [.int _]) (r := [_]) X E (c5_letterAt _ J41.1 T1 _) lkX5_letterAt mlX5_29 lmX5_letterAt lpX5_letterAt ⟨Nat.le_of_ble_eq_true rfl, Nat.le_of_ble_eq_true rfl⟩ ⟨Nat.le_of_ble_eq_true rfl, Nat.le_of_ble_eq_true rfl⟩ rfl (tm_cell J41.1 gb7) (Nat.le_of_ble_eq_true rfl) (dk rfl) ?_
      rintro _ ⟨x48, hx49, rfl⟩
      refine callVW_ok (ci := 7) (T := TX5) (N := 3) (av := [.int _]) (r := []) X E J41 (c5_add _ J41.1 T0 _ hx49) lkX5_add mlX5_33 lmX5_add lpX5_add ⟨Nat.le_of_ble_eq_true rfl, Nat.le_of_ble_eq_true rfl⟩ ⟨Nat.le_of_ble_eq_true rfl, Nat.le_of_ble_eq_true rfl⟩ rfl (tm_cell J41.1 gb3) (Nat.le_of_ble_eq_true rfl) (dk rfl) ?_
      rintro _ h50 rfl J51
      refine fst1_ok X (dk rfl) rfl ?_
      refine br_ok X (dk rfl) rfl (show ((22 : Nat) : Int) + (-20) = ((2 : Nat) : Int) from rfl) (fun _ => ?_) (fun q => absurd trivial q)
      exact ih2 _ (nlt_of c47) h50 J51 _ rfl
  iterate 2 refine fst1_ok X (dk rfl) rfl ?_
  exact L2 _ h (TI.rf I) _ rfl
set_option maxHeartbeats 4000000 in
theorem FZ.c5_becomeName (h : AH) (I : Tyg Γ h) {o0 L0 : Nat} (T0 : TermG true Γ o0 L0) (x1 : Int32) (hx1 : LR x1) : CT la D cA B0 pa yX5_becomeName cX5_becomeName 2 none (rmD 1 0 0) [.ref o0, .int (x1)] h (WrO Γ voidP h) := by
  refine CT_of (by decide +kernel) (Nat.le_of_ble_eq_true rfl) ?_
  intro p e s m args below meth c X E hr hlk hnm
  have dk : ∀ {pc : Nat} {q : Instr × Nat}, lkd DX5_becomeName pc = some q → decode cX5_becomeName pc = .ok q := lkd_ok DX5_becomeName_ok
  obtain ⟨hL2, q1, gb3, gl4⟩ := id T0
  refine fst1_ok X (dk rfl) rfl ?_
  refine callVW_ok (ci := 7) (T := TX5) (N := 3) (av := []) (r := []) X E (TI.rf I) (c5_empty _ (TI.rf I).1 T0) lkX5_empty mlX5_37 lmX5_empty lpX5_empty ⟨Nat.le_of_ble_eq_true rfl, Nat.le_of_ble_eq_true rfl⟩ ⟨Nat.le_of_ble_eq_true rfl, Nat.le_of_ble_eq_true rfl⟩ rfl (tm_cell (TI.rf I).1 gb3) (Nat.le_of_ble_eq_true rfl) (dk rfl) ?_
  rintro _ h5 rfl J6
  iterate 2 refine fst1_ok X (dk rfl) rfl ?_
  refine callVW_ok (ci := 7) (T := TX5) (N := 3) (av := [.int _]) (r := []) X E J6 (c5_add _ J6.1 T0 _ hx1) lkX5_add mlX5_33 lmX5_add lpX5_add ⟨Nat.le_of_ble_eq_true rfl, Nat.le_of_ble_eq_true rfl⟩ ⟨Nat.le_of_ble_eq_true rfl, Nat.le_of_ble_eq_true rfl⟩ rfl (tm_cell J6.1 gb3) (Nat.le_of_ble_eq_true rfl) (dk rfl) ?_
  rintro _ h7 rfl J8
  exact retv_ok X hr hlk (dk rfl) ⟨rfl, J8⟩ (Nat.le_of_ble_eq_true rfl) (Nat.le_of_ble_eq_true rfl)
set_option maxHeartbeats 4000000 in
theorem FZ.c5_firstPlaceOf (h : AH) (I : Tyg Γ h) {o0 L0 : Nat} {w0 : Bool} (T0 : TermG w0 Γ o0 L0) (x1 : Int32) : CT la D cA B0 pa yX5_firstPlaceOf cX5_firstPlaceOf 3 (some .int) (rmD 1 0 0) [.ref o0, .int (x1)] h (RdO iP h) := by
  refine CT_of (by decide +kernel) (Nat.le_of_ble_eq_true rfl) ?_
  intro p e s m args below meth c X E hr hlk hnm
  have dk : ∀ {pc : Nat} {q : Instr × Nat}, lkd DX5_firstPlaceOf pc = some q → decode cX5_firstPlaceOf pc = .ok q := lkd_ok DX5_firstPlaceOf_ok
  obtain ⟨hL2, q1, gb3, gl4⟩ := id T0
  have L2 : ∀ j5 : Int32, ∀ (l : List (Nat × Value)), lsel l [2, 1, 0] = [(2, .int (j5)), (1, .int (x1)), (0, .ref o0)] → WR p la e (rmD 1 0 0) s m args below meth c D cA B0 3 (RdO iP h) 2 l [] h 0 0 := by
    refine loopUp (fun j5 ih2 => ?_)
    intro l hl
    refine WS.sel [2, 1, 0] hl ?_
    iterate 2 refine fst1_ok X (dk rfl) rfl ?_
    obtain ⟨f8, t9, hx10, hf11⟩ := tm_open (TI.rf I).1 gb3
    refine getf_ok X flX5_21 (dk rfl) hx10 rfl ?_
    refine br_ok X (dk rfl) rfl (show ((7 : Nat) : Int) + 20 = ((27 : Nat) : Int) from rfl) (fun c12 => ?_) (fun c13 => ?_)
    · refine fst1_ok X (dk rfl) rfl ?_
      exact reti_ok X hr hlk rfl (dk rfl) ⟨⟨_, rfl⟩, rfl⟩ (Nat.le_of_ble_eq_true rfl) (Nat.le_of_ble_eq_true rfl)
    · iterate 2 refine fst1_ok X (dk rfl) rfl ?_
      refine callVR_ok (ci := 7) (T := TX5) (N := 3) (av := [.int _]) (r := []) X E (c5_letterAt _ (TI.rf I).1 T0 _) lkX5_letterAt mlX5_29 lmX5_letterAt lpX5_letterAt ⟨Nat.le_of_ble_eq_true rfl, Nat.le_of_ble_eq_true rfl⟩ ⟨Nat.le_of_ble_eq_true rfl, Nat.le_of_ble_eq_true rfl⟩ rfl (tm_cell (TI.rf I).1 gb3) (Nat.le_of_ble_eq_true rfl) (dk rfl) ?_
      rintro _ ⟨x14, hx15, rfl⟩
      refine fst1_ok X (dk rfl) rfl ?_
      refine br_ok X (dk rfl) rfl (show ((16 : Nat) : Int) + 5 = ((21 : Nat) : Int) from rfl) (fun c16 => ?_) (fun c17 => ?_)
      · refine fst1_ok X (dk rfl) rfl ?_
        refine br_ok X (dk rfl) rfl (show ((24 : Nat) : Int) + (-22) = ((2 : Nat) : Int) from rfl) (fun _ => ?_) (fun q => absurd trivial q)
        exact ih2 _ (nlt_of c13) _ rfl
      · refine fst1_ok X (dk rfl) rfl ?_
        exact reti_ok X hr hlk rfl (dk rfl) ⟨⟨_, rfl⟩, rfl⟩ (Nat.le_of_ble_eq_true rfl) (Nat.le_of_ble_eq_true rfl)
  iterate 2 refine fst1_ok X (dk rfl) rfl ?_
  exact L2 _ _ rfl
set_option maxHeartbeats 4000000 in
theorem FZ.c5_namesIn (h : AH) (I : Tyg Γ h) {o0 L0 : Nat} {w0 : Bool} (T0 : TermG w0 Γ o0 L0) (x1 : Int32) (x2 : Int32) : CT la D cA B0 pa yX5_namesIn cX5_namesIn 6 (some .int) (rmD 1 0 0) [.ref o0, .int (x1), .int (x2)] h (RdO iP h) := by
  refine CT_of (by decide +kernel) (Nat.le_of_ble_eq_true rfl) ?_
  intro p e s m args below meth c X E hr hlk hnm
  have dk : ∀ {pc : Nat} {q : Instr × Nat}, lkd DX5_namesIn pc = some q → decode cX5_namesIn pc = .ok q := lkd_ok DX5_namesIn_ok
  obtain ⟨hL2, q1, gb3, gl4⟩ := id T0
  have L5 : ∀ j5 : Int32, ∀ (y6 : Int32) (l : List (Nat × Value)), lsel l [4, 3, 2, 0] = [(4, .int (j5)), (3, .int (y6)), (2, .int (x2)), (0, .ref o0)] → WR p la e (rmD 1 0 0) s m args below meth c D cA B0 6 (RdO iP h) 5 l [] h 0 0 := by
    refine loopUp (fun j5 ih5 => ?_)
    intro y6 l hl
    refine WS.sel [4, 3, 2, 0] hl ?_
    iterate 2 refine fst1_ok X (dk rfl) rfl ?_
    refine br_ok X (dk rfl) rfl (show ((8 : Nat) : Int) + 32 = ((40 : Nat) : Int) from rfl) (fun c9 => ?_) (fun c10 => ?_)
    · refine fst1_ok X (dk rfl) rfl ?_
      exact reti_ok X hr hlk rfl (dk rfl) ⟨⟨_, rfl⟩, rfl⟩ (Nat.le_of_ble_eq_true rfl) (Nat.le_of_ble_eq_true rfl)
    · iterate 2 refine fst1_ok X (dk rfl) rfl ?_
      refine callVR_ok (ci := 7) (T := TX5) (N := 3) (av := [.int _]) (r := []) X E (c5_letterAt _ (TI.rf I).1 T0 _) lkX5_letterAt mlX5_29 lmX5_letterAt lpX5_letterAt ⟨Nat.le_of_ble_eq_true rfl, Nat.le_of_ble_eq_true rfl⟩ ⟨Nat.le_of_ble_eq_true rfl, Nat.le_of_ble_eq_true rfl⟩ rfl (tm_cell (TI.rf I).1 gb3) (Nat.le_of_ble_eq_true rfl) (dk rfl) ?_
      rintro _ ⟨x11, hx12, rfl⟩
      iterate 2 refine fst1_ok X (dk rfl) rfl ?_
      refine callNR_ok (av := [.int _]) (r := []) X E (c6_isName _ (TI.rf I).1 _) lkX6_isName mnX5_44 lsX6_isName ⟨Nat.le_of_ble_eq_true rfl, Nat.le_of_ble_eq_true rfl⟩ ⟨Nat.le_of_ble_eq_true rfl, Nat.le_of_ble_eq_true rfl⟩ (Nat.le_of_ble_eq_true rfl) (dk rfl) ?_
      rintro _ ⟨b13, rfl, hb14, hn15⟩
      refine br_ok X (dk rfl) rfl (show ((24 : Nat) : Int) + 10 = ((34 : Nat) : Int) from rfl) (fun c16 => ?_) (fun c17 => ?_)
      · refine fst1_ok X (dk rfl) rfl ?_
        refine br_ok X (dk rfl) rfl (show ((37 : Nat) : Int) + (-32) = ((5 : Nat) : Int) from rfl) (fun _ => ?_) (fun q => absurd trivial q)
        exact ih5 _ (nlt_of c10) _ _ rfl
      · iterate 7 refine fst1_ok X (dk rfl) rfl ?_
        refine br_ok X (dk rfl) rfl (show ((37 : Nat) : Int) + (-32) = ((5 : Nat) : Int) from rfl) (fun _ => ?_) (fun q => absurd trivial q)
        exact ih5 _ (nlt_of c10) _ _ rfl
  iterate 4 refine fst1_ok X (dk rfl) rfl ?_
  exact L5 _ _ _ rfl
set_option maxHeartbeats 4000000 in
theorem FZ.c5_becomePlainOf (h : AH) (I : Tyg Γ h) {o0 L0 : Nat} (T0 : TermG true Γ o0 L0) {o1 L1 : Nat} {w1 : Bool} (T1 : TermG w1 Γ o1 L1) : CT la D cA B0 pa yX5_becomePlainOf cX5_becomePlainOf 4 none (rmD 2 0 0) [.ref o0, .ref o1] h (WrO Γ voidP h) := by
  refine CT_of (by decide +kernel) (Nat.le_of_ble_eq_true rfl) ?_
  intro p e s m args below meth c X E hr hlk hnm
  have dk : ∀ {pc : Nat} {q : Instr × Nat}, lkd DX5_becomePlainOf pc = some q → decode cX5_becomePlainOf pc = .ok q := lkd_ok DX5_becomePlainOf_ok
  obtain ⟨hL2, q1, gb3, gl4⟩ := id T0
  obtain ⟨hL6, q5, gb7, gl8⟩ := id T1
  have L6 : ∀ j9 : Int32, ∀ (h12 : AH) (J13 : TI Γ h h12) (l : List (Nat × Value)), lsel l [2, 1, 0] = [(2, .int (j9)), (1, .ref o1), (0, .ref o0)] → WR p la e (rmD 2 0 0) s m args below meth c D cA B0 4 (WrO Γ voidP h) 6 l [] h12 0 0 := by
    refine loopUp (fun j9 ih6 => ?_)
    intro h12 J13 l hl
    refine WS.sel [2, 1, 0] hl ?_
    iterate 2 refine fst1_ok X (dk rfl) rfl ?_
    obtain ⟨f14, t15, hx16, hf17⟩ := tm_open J13.1 gb7
    refine getf_ok X flX5_21 (dk rfl) hx16 rfl ?_
    refine br_ok X (dk rfl) rfl (show ((11 : Nat) : Int) + 43 = ((54 : Nat) : Int) from rfl) (fun c18 => ?_) (fun c19 => ?_)
    · exact retv_ok X hr hlk (dk rfl) ⟨rfl, J13⟩ (Nat.le_of_ble_eq_true rfl) (Nat.le_of_ble_eq_true rfl)
    · iterate 2 refine fst1_ok X (dk rfl) rfl ?_
      refine callVR_ok (ci := 7) (T := TX5) (N := 3) (av := [.int _]) (r := []) X E (c5_letterAt _ J13.1 T1 _) lkX5_letterAt mlX5_29 lmX5_letterAt lpX5_letterAt ⟨Nat.le_of_ble_eq_true rfl, Nat.le_of_ble_eq_true rfl⟩ ⟨Nat.le_of_ble_eq_true rfl, Nat.le_of_ble_eq_true rfl⟩ rfl (tm_cell J13.1 gb7) (Nat.le_of_ble_eq_true rfl) (dk rfl) ?_
      rintro _ ⟨x20, hx21, rfl⟩
      iterate 3 refine fst1_ok X (dk rfl) rfl ?_
      refine callNR_ok (av := [.int _]) (r := [_]) X E (c6_isName _ J13.1 _) lkX6_isName mnX5_44 lsX6_isName ⟨Nat.le_of_ble_eq_true rfl, Nat.le_of_ble_eq_true rfl⟩ ⟨Nat.le_of_ble_eq_true rfl, Nat.le_of_ble_eq_true rfl⟩ (Nat.le_of_ble_eq_true rfl) (dk rfl) ?_
      rintro _ ⟨b22, rfl, hb23, hn24⟩
      refine br_ok X (dk rfl) rfl (show ((25 : Nat) : Int) + 19 = ((44 : Nat) : Int) from rfl) (fun c25 => ?_) (fun c26 => ?_)
      · refine fst1_ok X (dk rfl) rfl ?_
        refine callVW_ok (ci := 7) (T := TX5) (N := 3) (av := [.int _]) (r := []) X E J13 (c5_add _ J13.1 T0 _ hx21) lkX5_add mlX5_33 lmX5_add lpX5_add ⟨Nat.le_of_ble_eq_true rfl, Nat.le_of_ble_eq_true rfl⟩ ⟨Nat.le_of_ble_eq_true rfl, Nat.le_of_ble_eq_true rfl⟩ rfl (tm_cell J13.1 gb3) (Nat.le_of_ble_eq_true rfl) (dk rfl) ?_
        rintro _ h27 rfl J28
        refine fst1_ok X (dk rfl) rfl ?_
        refine br_ok X (dk rfl) rfl (show ((51 : Nat) : Int) + (-45) = ((6 : Nat) : Int) from rfl) (fun _ => ?_) (fun q => absurd trivial q)
        exact ih6 _ (nlt_of c19) h27 J28 _ rfl
      · iterate 4 refine fst1_ok X (dk rfl) rfl ?_
        refine callVR_ok (ci := 7) (T := TX5) (N := 3) (av := [.int _]) (r := [_, _, _]) X E (c5_firstPlaceOf _ J13.1 T1 _) lkX5_firstPlaceOf mlX5_48 lmX5_firstPlaceOf lpX5_firstPlaceOf ⟨Nat.le_of_ble_eq_true rfl, Nat.le_of_ble_eq_true rfl⟩ ⟨Nat.le_of_ble_eq_true rfl, Nat.le_of_ble_eq_true rfl⟩ rfl (tm_cell J13.1 gb7) (Nat.le_of_ble_eq_true rfl) (dk rfl) ?_
        rintro _ ⟨x29, rfl⟩
        refine callVR_ok (ci := 7) (T := TX5) (N := 3) (av := [.int _, .int _]) (r := [_]) X E (c5_namesIn _ J13.1 T1 _ _) lkX5_namesIn mlX5_51 lmX5_namesIn lpX5_namesIn ⟨Nat.le_of_ble_eq_true rfl, Nat.le_of_ble_eq_true rfl⟩ ⟨Nat.le_of_ble_eq_true rfl, Nat.le_of_ble_eq_true rfl⟩ rfl (tm_cell J13.1 gb7) (Nat.le_of_ble_eq_true rfl) (dk rfl) ?_
        rintro _ ⟨x30, rfl⟩
        refine callSR_ok (av := [.int _]) (r := [_]) X E (c_bitCount _ _) lkJ6_bitCount_0f7a4 mlX5_54 lsJ6_bitCount_0f7a4 ⟨Nat.le_of_ble_eq_true rfl, Nat.le_of_ble_eq_true rfl⟩ ⟨Nat.le_of_ble_eq_true rfl, Nat.le_of_ble_eq_true rfl⟩ (Nat.le_of_ble_eq_true rfl) (dk rfl) ?_
        rintro _ rfl
        refine br_ok X (dk rfl) rfl (show ((41 : Nat) : Int) + 4 = ((45 : Nat) : Int) from rfl) (fun _ => ?_) (fun q => absurd trivial q)
        refine callVW_ok (ci := 7) (T := TX5) (N := 3) (av := [.int _]) (r := []) X E J13 (c5_add _ J13.1 T0 _ (LR_bc _)) lkX5_add mlX5_33 lmX5_add lpX5_add ⟨Nat.le_of_ble_eq_true rfl, Nat.le_of_ble_eq_true rfl⟩ ⟨Nat.le_of_ble_eq_true rfl, Nat.le_of_ble_eq_true rfl⟩ rfl (tm_cell J13.1 gb3) (Nat.le_of_ble_eq_true rfl) (dk rfl) ?_
        rintro _ h31 rfl J32
        refine fst1_ok X (dk rfl) rfl ?_
        refine br_ok X (dk rfl) rfl (show ((51 : Nat) : Int) + (-45) = ((6 : Nat) : Int) from rfl) (fun _ => ?_) (fun q => absurd trivial q)
        exact ih6 _ (nlt_of c19) h31 J32 _ rfl
  refine fst1_ok X (dk rfl) rfl ?_
  refine callVW_ok (ci := 7) (T := TX5) (N := 3) (av := []) (r := []) X E (TI.rf I) (c5_empty _ (TI.rf I).1 T0) lkX5_empty mlX5_37 lmX5_empty lpX5_empty ⟨Nat.le_of_ble_eq_true rfl, Nat.le_of_ble_eq_true rfl⟩ ⟨Nat.le_of_ble_eq_true rfl, Nat.le_of_ble_eq_true rfl⟩ rfl (tm_cell (TI.rf I).1 gb3) (Nat.le_of_ble_eq_true rfl) (dk rfl) ?_
  rintro _ h33 rfl J34
  iterate 2 refine fst1_ok X (dk rfl) rfl ?_
  exact L6 _ h33 J34 _ rfl
set_option maxHeartbeats 4000000 in
theorem FZ.c5_endOf (h : AH) (I : Tyg Γ h) {o0 L0 : Nat} {w0 : Bool} (T0 : TermG w0 Γ o0 L0) (x1 : Int32) : CT la D cA B0 pa yX5_endOf cX5_endOf 4 (some .int) (rmD 1 0 0) [.ref o0, .int (x1)] h (RdO iP h) := by
  refine CT_of (by decide +kernel) (Nat.le_of_ble_eq_true rfl) ?_
  intro p e s m args below meth c X E hr hlk hnm
  have dk : ∀ {pc : Nat} {q : Instr × Nat}, lkd DX5_endOf pc = some q → decode cX5_endOf pc = .ok q := lkd_ok DX5_endOf_ok
  obtain ⟨hL2, q1, gb3, gl4⟩ := id T0
  have L4 : ∀ j5 : Int32, ∀ (y6 : Int32) (l : List (Nat × Value)), lsel l [3, 2, 0] = [(3, .int (j5)), (2, .int (y6)), (0, .ref o0)] → WR p la e (rmD 1 0 0) s m args below meth c D cA B0 4 (RdO iP h) 4 l [] h 0 0 := by
    refine loopUp (fun j5 ih4 => ?_)
    intro y6 l hl
    refine WS.sel [3, 2, 0] hl ?_
    iterate 2 refine fst1_ok X (dk rfl) rfl ?_
    obtain ⟨f8, t9, hx10, hf11⟩ := tm_open (TI.rf I).1 gb3
    refine getf_ok X flX5_21 (dk rfl) hx10 rfl ?_
    refine br_ok X (dk rfl) rfl (show ((9 : Nat) : Int) + 26 = ((35 : Nat) : Int) from rfl) (fun c12 => ?_) (fun c13 => ?_)
    · refine fst1_ok X (dk rfl) rfl ?_
      exact reti_ok X hr hlk rfl (dk rfl) ⟨⟨_, rfl⟩, rfl⟩ (Nat.le_of_ble_eq_true rfl) (Nat.le_of_ble_eq_true rfl)
    · refine fst1_ok X (dk rfl) rfl ?_
      refine br_ok X (dk rfl) rfl (show ((13 : Nat) : Int) + 22 = ((35 : Nat) : Int) from rfl) (fun c14 => ?_) (fun c15 => ?_)
      · refine fst1_ok X (dk rfl) rfl ?_
        exact reti_ok X hr hlk rfl (dk rfl) ⟨⟨_, rfl⟩, rfl⟩ (Nat.le_of_ble_eq_true rfl) (Nat.le_of_ble_eq_true rfl)
      · iterate 3 refine fst1_ok X (dk rfl) rfl ?_
        refine callVR_ok (ci := 7) (T := TX5) (N := 3) (av := [.int _]) (r := [_]) X E (c5_letterAt _ (TI.rf I).1 T0 _) lkX5_letterAt mlX5_29 lmX5_letterAt lpX5_letterAt ⟨Nat.le_of_ble_eq_true rfl, Nat.le_of_ble_eq_true rfl⟩ ⟨Nat.le_of_ble_eq_true rfl, Nat.le_of_ble_eq_true rfl⟩ rfl (tm_cell (TI.rf I).1 gb3) (Nat.le_of_ble_eq_true rfl) (dk rfl) ?_
        rintro _ ⟨x16, hx17, rfl⟩
        refine callNR_ok (av := [.int _]) (r := [_]) X E (c6_partsOf _ (TI.rf I).1 _) lkX6_partsOf mnX5_59 lsX6_partsOf ⟨Nat.le_of_ble_eq_true rfl, Nat.le_of_ble_eq_true rfl⟩ ⟨Nat.le_of_ble_eq_true rfl, Nat.le_of_ble_eq_true rfl⟩ (Nat.le_of_ble_eq_true rfl) (dk rfl) ?_
        rintro _ ⟨n18, hn19, rfl⟩
        iterate 5 refine fst1_ok X (dk rfl) rfl ?_
        refine br_ok X (dk rfl) rfl (show ((32 : Nat) : Int) + (-28) = ((4 : Nat) : Int) from rfl) (fun _ => ?_) (fun q => absurd trivial q)
        exact ih4 _ (nlt_of c13) _ _ rfl
  iterate 4 refine fst1_ok X (dk rfl) rfl ?_
  exact L4 _ _ _ rfl
set_option maxHeartbeats 4000000 in
theorem FZ.c5_closedBehind (h : AH) (I : Tyg Γ h) {o0 L0 : Nat} {w0 : Bool} (T0 : TermG w0 Γ o0 L0) (x1 : Int32) : CT la D cA B0 pa yX5_closedBehind cX5_closedBehind 4 (some .int) (rmD 2 0 0) [.ref o0, .int (x1)] h (RdO (nP x1.toInt.toNat) h) := by
  refine CT_of (by decide +kernel) (Nat.le_of_ble_eq_true rfl) ?_
  intro p e s m args below meth c X E hr hlk hnm
  have dk : ∀ {pc : Nat} {q : Instr × Nat}, lkd DX5_closedBehind pc = some q → decode cX5_closedBehind pc = .ok q := lkd_ok DX5_closedBehind_ok
  have hx1 : x1.toInt.toNat < 2 ^ 31 := by have := Int32.toInt_lt x1; omega
  obtain ⟨hL2, q1, gb3, gl4⟩ := id T0
  have L4 : ∀ j5 : Nat, j5 ≤ x1.toInt.toNat → ∀ (y6 : Nat) (hy6 : y6 ≤ j5) (l : List (Nat × Value)), lsel l [3, 2, 1, 0] = [(3, vI j5), (2, vI y6), (1, .int (x1)), (0, .ref o0)] → WR p la e (rmD 2 0 0) s m args below meth c D cA B0 4 (RdO (nP x1.toInt.toNat) h) 4 l [] h 0 0 := by
    refine loopN (fun j5 hj5 ih4 => ?_)
    intro y6 hy6 l hl
    refine WS.sel [3, 2, 1, 0] hl ?_
    iterate 2 refine fst1_ok X (dk rfl) rfl ?_
    refine br_ok X (dk rfl) rfl (show ((6 : Nat) : Int) + 23 = ((29 : Nat) : Int) from rfl) (fun c9 => ?_) (fun c10 => ?_)
    · refine fst1_ok X (dk rfl) rfl ?_
      exact reti_ok X hr hlk rfl (dk rfl) ⟨⟨_, (by omega), rfl⟩, rfl⟩ (Nat.le_of_ble_eq_true rfl) (Nat.le_of_ble_eq_true rfl)
    · iterate 2 refine fst1_ok X (dk rfl) rfl ?_
      refine callVR_ok (ci := 7) (T := TX5) (N := 3) (av := [.int _]) (r := []) X E (c5_endOf _ (TI.rf I).1 T0 _) lkX5_endOf mlX5_62 lmX5_endOf lpX5_endOf ⟨Nat.le_of_ble_eq_true rfl, Nat.le_of_ble_eq_true rfl⟩ ⟨Nat.le_of_ble_eq_true rfl, Nat.le_of_ble_eq_true rfl⟩ rfl (tm_cell (TI.rf I).1 gb3) (Nat.le_of_ble_eq_true rfl) (dk rfl) ?_
      rintro _ ⟨x11, rfl⟩
      iterate 3 refine fst1_ok X (dk rfl) rfl ?_
      refine br_ok X (dk rfl) rfl (show ((17 : Nat) : Int) + 6 = ((23 : Nat) : Int) from rfl) (fun c12 => ?_) (fun c13 => ?_)
      · refine fst1_ok X (dk rfl) rfl ?_
        refine br_ok X (dk rfl) rfl (show ((26 : Nat) : Int) + (-22) = ((4 : Nat) : Int) from rfl) (fun _ => ?_) (fun q => absurd trivial q)
        exact ih4 (natx_lt (by omega) c10) y6 (by omega) _ (by rw [← vI_succ j5]; rfl)
      · iterate 2 refine fst1_ok X (dk rfl) rfl ?_
        refine br_ok X (dk rfl) rfl (show ((26 : Nat) : Int) + (-22) = ((4 : Nat) : Int) from rfl) (fun _ => ?_) (fun q => absurd trivial q)
        exact ih4 (natx_lt (by omega) c10) (y6 + 1) (by omega) _ (by rw [← vI_succ j5, ← vI_succ y6]; rfl)
  iterate 4 refine fst1_ok X (dk rfl) rfl ?_
  exact L4 0 (by omega) 0 (Nat.zero_le _) _ rfl
set_option maxHeartbeats 4000000 in
theorem FZ.c5_levels (h : AH) (I : Tyg Γ h) {o0 L0 : Nat} {w0 : Bool} (T0 : TermG w0 Γ o0 L0) : CT la D cA B0 pa yX5_levels cX5_levels 4 (some .int) (rmD 3 0 0) [.ref o0] h (RdO iP h) := by
  refine CT_of (by decide +kernel) (Nat.le_of_ble_eq_true rfl) ?_
  intro p e s m args below meth c X E hr hlk hnm
  have dk : ∀ {pc : Nat} {q : Instr × Nat}, lkd DX5_levels pc = some q → decode cX5_levels pc = .ok q := lkd_ok DX5_levels_ok
  obtain ⟨hL2, q1, gb3, gl4⟩ := id T0
  have L6 : ∀ j5 : Int32, ∀ (y6 : Int32) (y7 : Int32) (l : List (Nat × Value)), lsel l [3, 2, 1, 0] = [(3, .int (j5)), (2, .int (y6)), (1, .int (y7)), (0, .ref o0)] → WR p la e (rmD 3 0 0) s m args below meth c D cA B0 4 (RdO iP h) 6 l [] h 0 0 := by
    refine loopUp (fun j5 ih6 => ?_)
    intro y6 y7 l hl
    refine WS.sel [3, 2, 1, 0] hl ?_
    iterate 2 refine fst1_ok X (dk rfl) rfl ?_
    obtain ⟨f9, t10, hx11, hf12⟩ := tm_open (TI.rf I).1 gb3
    refine getf_ok X flX5_21 (dk rfl) hx11 rfl ?_
    refine br_ok X (dk rfl) rfl (show ((11 : Nat) : Int) + 39 = ((50 : Nat) : Int) from rfl) (fun c13 => ?_) (fun c14 => ?_)
    · refine fst1_ok X (dk rfl) rfl ?_
      exact reti_ok X hr hlk rfl (dk rfl) ⟨⟨_, rfl⟩, rfl⟩ (Nat.le_of_ble_eq_true rfl) (Nat.le_of_ble_eq_true rfl)
    · iterate 2 refine fst1_ok X (dk rfl) rfl ?_
      refine mmaxi_ok X mlX5_9 (dk rfl) (by decide) (Nat.le_of_ble_eq_true rfl) (Nat.le_of_ble_eq_true rfl) (Nat.le_of_ble_eq_true rfl) (fun mx15 => ?_)
      iterate 4 refine fst1_ok X (dk rfl) rfl ?_
      refine callVR_ok (ci := 7) (T := TX5) (N := 3) (av := [.int _]) (r := [_]) X E (c5_letterAt _ (TI.rf I).1 T0 _) lkX5_letterAt mlX5_29 lmX5_letterAt lpX5_letterAt ⟨Nat.le_of_ble_eq_true rfl, Nat.le_of_ble_eq_true rfl⟩ ⟨Nat.le_of_ble_eq_true rfl, Nat.le_of_ble_eq_true rfl⟩ rfl (tm_cell (TI.rf I).1 gb3) (Nat.le_of_ble_eq_true rfl) (dk rfl) ?_
      rintro _ ⟨x16, hx17, rfl⟩
      refine callNR_ok (av := [.int _]) (r := [_]) X E (c6_partsOf _ (TI.rf I).1 _) lkX6_partsOf mnX5_59 lsX6_partsOf ⟨Nat.le_of_ble_eq_true rfl, Nat.le_of_ble_eq_true rfl⟩ ⟨Nat.le_of_ble_eq_true rfl, Nat.le_of_ble_eq_true rfl⟩ (Nat.le_of_ble_eq_true rfl) (dk rfl) ?_
      rintro _ ⟨n18, hn19, rfl⟩
      refine br_ok X (dk rfl) rfl (show ((29 : Nat) : Int) + 7 = ((36 : Nat) : Int) from rfl) (fun c20 => ?_) (fun c21 => ?_)
      · iterate 2 refine fst1_ok X (dk rfl) rfl ?_
        refine callVR_ok (ci := 7) (T := TX5) (N := 3) (av := [.int _]) (r := [_]) X E (c5_closedBehind _ (TI.rf I).1 T0 _) lkX5_closedBehind mlX5_65 lmX5_closedBehind lpX5_closedBehind ⟨Nat.le_of_ble_eq_true rfl, Nat.le_of_ble_eq_true rfl⟩ ⟨Nat.le_of_ble_eq_true rfl, Nat.le_of_ble_eq_true rfl⟩ rfl (tm_cell (TI.rf I).1 gb3) (Nat.le_of_ble_eq_true rfl) (dk rfl) ?_
        rintro _ ⟨n22, hn23, rfl⟩
        iterate 4 refine fst1_ok X (dk rfl) rfl ?_
        refine br_ok X (dk rfl) rfl (show ((47 : Nat) : Int) + (-41) = ((6 : Nat) : Int) from rfl) (fun _ => ?_) (fun q => absurd trivial q)
        exact ih6 _ (nlt_of c14) _ _ _ rfl
      · refine fst1_ok X (dk rfl) rfl ?_
        refine br_ok X (dk rfl) rfl (show ((33 : Nat) : Int) + 9 = ((42 : Nat) : Int) from rfl) (fun _ => ?_) (fun q => absurd trivial q)
        iterate 3 refine fst1_ok X (dk rfl) rfl ?_
        refine br_ok X (dk rfl) rfl (show ((47 : Nat) : Int) + (-41) = ((6 : Nat) : Int) from rfl) (fun _ => ?_) (fun q => absurd trivial q)
        exact ih6 _ (nlt_of c14) _ _ _ rfl
  iterate 6 refine fst1_ok X (dk rfl) rfl ?_
  exact L6 _ _ _ _ rfl
set_option maxHeartbeats 4000000 in
theorem FZ.c5_isLikeAt (h : AH) (I : Tyg Γ h) {o0 L0 : Nat} {w0 : Bool} (T0 : TermG w0 Γ o0 L0) (x1 : Int32) {o2 L2 : Nat} {w2 : Bool} (T2 : TermG w2 Γ o2 L2) (x3 : Int32) : CT la D cA B0 pa yX5_isLikeAt cX5_isLikeAt 7 (some .boolean) (rmD 1 0 0) [.ref o0, .int (x1), .ref o2, .int (x3)] h (RdO bP h) := by
  refine CT_of (by decide +kernel) (Nat.le_of_ble_eq_true rfl) ?_
  intro p e s m args below meth c X E hr hlk hnm
  have dk : ∀ {pc : Nat} {q : Instr × Nat}, lkd DX5_isLikeAt pc = some q → decode cX5_isLikeAt pc = .ok q := lkd_ok DX5_isLikeAt_ok
  obtain ⟨hL2, q1, gb3, gl4⟩ := id T0
  obtain ⟨hL6, q5, gb7, gl8⟩ := id T2
  have L6 : ∀ j9 : Int32, ∀ (y10 : Int32) (l : List (Nat × Value)), lsel l [5, 4, 3, 2, 1, 0] = [(5, .int (j9)), (4, .int (y10)), (3, .int (x3)), (2, .ref o2), (1, .int (x1)), (0, .ref o0)] → WR p la e (rmD 1 0 0) s m args below meth c D cA B0 7 (RdO bP h) 6 l [] h 0 0 := by
    refine loopUp (fun j9 ih6 => ?_)
    intro y10 l hl
    refine WS.sel [5, 4, 3, 2, 1, 0] hl ?_
    refine fst1_ok X (dk rfl) rfl ?_
    refine br_ok X (dk rfl) rfl (show ((8 : Nat) : Int) + 63 = ((71 : Nat) : Int) from rfl) (fun c15 => ?_) (fun c16 => ?_)
    · refine fst1_ok X (dk rfl) rfl ?_
      refine br_ok X (dk rfl) rfl (show ((73 : Nat) : Int) + 7 = ((80 : Nat) : Int) from rfl) (fun c17 => ?_) (fun c18 => ?_)
      · refine fst1_ok X (dk rfl) rfl ?_
        exact reti_ok X hr hlk (bI_n false) (dk rfl) ⟨⟨false, rfl⟩, rfl⟩ (Nat.le_of_ble_eq_true rfl) (Nat.le_of_ble_eq_true rfl)
      · refine fst1_ok X (dk rfl) rfl ?_
        refine br_ok X (dk rfl) rfl (show ((77 : Nat) : Int) + 4 = ((81 : Nat) : Int) from rfl) (fun _ => ?_) (fun q => absurd trivial q)
        exact reti_ok X hr hlk (bI_n true) (dk rfl) ⟨⟨true, rfl⟩, rfl⟩ (Nat.le_of_ble_eq_true rfl) (Nat.le_of_ble_eq_true rfl)
    · iterate 2 refine fst1_ok X (dk rfl) rfl ?_
      obtain ⟨f19, t20, hx21, hf22⟩ := tm_open (TI.rf I).1 gb3
      refine getf_ok X flX5_15 (dk rfl) hx21 rfl ?_
      obtain ⟨xs23, hx24, hn25, hr26⟩ := lt_open (TI.rf I).1 gl4
      refine alen7_ok X (dk rfl) hx24 hn25 ?_
      refine br_ok X (dk rfl) rfl (show ((18 : Nat) : Int) + 53 = ((71 : Nat) : Int) from rfl) (fun c27 => ?_) (fun c28 => ?_)
      · refine fst1_ok X (dk rfl) rfl ?_
        refine br_ok X (dk rfl) rfl (show ((73 : Nat) : Int) + 7 = ((80 : Nat) : Int) from rfl) (fun c29 => ?_) (fun c30 => ?_)
        · refine fst1_ok X (dk rfl) rfl ?_
          exact reti_ok X hr hlk (bI_n false) (dk rfl) ⟨⟨false, rfl⟩, rfl⟩ (Nat.le_of_ble_eq_true rfl) (Nat.le_of_ble_eq_true rfl)
        · refine fst1_ok X (dk rfl) rfl ?_
          refine br_ok X (dk rfl) rfl (show ((77 : Nat) : Int) + 4 = ((81 : Nat) : Int) from rfl) (fun _ => ?_) (fun q => absurd trivial q)
          exact reti_ok X hr hlk (bI_n true) (dk rfl) ⟨⟨true, rfl⟩, rfl⟩ (Nat.le_of_ble_eq_true rfl) (Nat.le_of_ble_eq_true rfl)
      · iterate 4 refine fst1_ok X (dk rfl) rfl ?_
        refine callVR_ok (ci := 7) (T := TX5) (N := 3) (av := [.int _]) (r := []) X E (c5_letterAt _ (TI.rf I).1 T0 _) lkX5_letterAt mlX5_29 lmX5_letterAt lpX5_letterAt ⟨Nat.le_of_ble_eq_true rfl, Nat.le_of_ble_eq_true rfl⟩ ⟨Nat.le_of_ble_eq_true rfl, Nat.le_of_ble_eq_true rfl⟩ rfl (tm_cell (TI.rf I).1 gb3) (Nat.le_of_ble_eq_true rfl) (dk rfl) ?_
        rintro _ ⟨x31, hx32, rfl⟩
        iterate 3 refine fst1_ok X (dk rfl) rfl ?_
        refine br_ok X (dk rfl) rfl (show ((35 : Nat) : Int) + 16 = ((51 : Nat) : Int) from rfl) (fun c33 => ?_) (fun c34 => ?_)
        · refine fst1_ok X (dk rfl) rfl ?_
          exact reti_ok X hr hlk (bI_n false) (dk rfl) ⟨⟨false, rfl⟩, rfl⟩ (Nat.le_of_ble_eq_true rfl) (Nat.le_of_ble_eq_true rfl)
        · iterate 5 refine fst1_ok X (dk rfl) rfl ?_
          refine callVR_ok (ci := 7) (T := TX5) (N := 3) (av := [.int _]) (r := [_]) X E (c5_letterAt _ (TI.rf I).1 T2 _) lkX5_letterAt mlX5_29 lmX5_letterAt lpX5_letterAt ⟨Nat.le_of_ble_eq_true rfl, Nat.le_of_ble_eq_true rfl⟩ ⟨Nat.le_of_ble_eq_true rfl, Nat.le_of_ble_eq_true rfl⟩ rfl (tm_cell (TI.rf I).1 gb7) (Nat.le_of_ble_eq_true rfl) (dk rfl) ?_
          rintro _ ⟨x35, hx36, rfl⟩
          refine br_ok X (dk rfl) rfl (show ((48 : Nat) : Int) + 5 = ((53 : Nat) : Int) from rfl) (fun c37 => ?_) (fun c38 => ?_)
          · iterate 2 refine fst1_ok X (dk rfl) rfl ?_
            refine callNR_ok (av := [.int _]) (r := [_]) X E (c6_partsOf _ (TI.rf I).1 _) lkX6_partsOf mnX5_59 lsX6_partsOf ⟨Nat.le_of_ble_eq_true rfl, Nat.le_of_ble_eq_true rfl⟩ ⟨Nat.le_of_ble_eq_true rfl, Nat.le_of_ble_eq_true rfl⟩ (Nat.le_of_ble_eq_true rfl) (dk rfl) ?_
            rintro _ ⟨n39, hn40, rfl⟩
            iterate 5 refine fst1_ok X (dk rfl) rfl ?_
            refine br_ok X (dk rfl) rfl (show ((68 : Nat) : Int) + (-62) = ((6 : Nat) : Int) from rfl) (fun _ => ?_) (fun q => absurd trivial q)
            exact ih6 _ (nlt_of c28) _ _ rfl
          · refine fst1_ok X (dk rfl) rfl ?_
            exact reti_ok X hr hlk (bI_n false) (dk rfl) ⟨⟨false, rfl⟩, rfl⟩ (Nat.le_of_ble_eq_true rfl) (Nat.le_of_ble_eq_true rfl)
  iterate 4 refine fst1_ok X (dk rfl) rfl ?_
  exact L6 _ _ _ rfl
set_option maxHeartbeats 4000000 in
theorem FZ.c5_isLike (h : AH) (I : Tyg Γ h) {o0 L0 : Nat} {w0 : Bool} (T0 : TermG w0 Γ o0 L0) {o1 L1 : Nat} {w1 : Bool} (T1 : TermG w1 Γ o1 L1) : CT la D cA B0 pa yX5_isLike cX5_isLike 2 (some .boolean) (rmD 2 0 0) [.ref o0, .ref o1] h (RdO bP h) := by
  refine CT_of (by decide +kernel) (Nat.le_of_ble_eq_true rfl) ?_
  intro p e s m args below meth c X E hr hlk hnm
  have dk : ∀ {pc : Nat} {q : Instr × Nat}, lkd DX5_isLike pc = some q → decode cX5_isLike pc = .ok q := lkd_ok DX5_isLike_ok
  obtain ⟨hL2, q1, gb3, gl4⟩ := id T0
  obtain ⟨hL6, q5, gb7, gl8⟩ := id T1
  iterate 4 refine fst1_ok X (dk rfl) rfl ?_
  refine callVR_ok (ci := 7) (T := TX5) (N := 3) (av := [.int _, .ref _, .int _]) (r := []) X E (c5_isLikeAt _ (TI.rf I).1 T0 _ T1 _) lkX5_isLikeAt mlX5_68 lmX5_isLikeAt lpX5_isLikeAt ⟨Nat.le_of_ble_eq_true rfl, Nat.le_of_ble_eq_true rfl⟩ ⟨Nat.le_of_ble_eq_true rfl, Nat.le_of_ble_eq_true rfl⟩ rfl (tm_cell (TI.rf I).1 gb3) (Nat.le_of_ble_eq_true rfl) (dk rfl) ?_
  rintro _ ⟨b9, rfl⟩
  exact reti_ok X hr hlk (bI_n b9) (dk rfl) ⟨⟨b9, rfl⟩, rfl⟩ (Nat.le_of_ble_eq_true rfl) (Nat.le_of_ble_eq_true rfl)
set_option maxHeartbeats 4000000 in
theorem FZ.c5_firstLike (h : AH) (I : Tyg Γ h) {o0 L0 : Nat} {w0 : Bool} (T0 : TermG w0 Γ o0 L0) (x1 : Int32) : CT la D cA B0 pa yX5_firstLike cX5_firstLike 3 (some .int) (rmD 2 0 0) [.ref o0, .int (x1)] h (RdO iP h) := by
  refine CT_of (by decide +kernel) (Nat.le_of_ble_eq_true rfl) ?_
  intro p e s m args below meth c X E hr hlk hnm
  have dk : ∀ {pc : Nat} {q : Instr × Nat}, lkd DX5_firstLike pc = some q → decode cX5_firstLike pc = .ok q := lkd_ok DX5_firstLike_ok
  obtain ⟨hL2, q1, gb3, gl4⟩ := id T0
  have L2 : ∀ j5 : Int32, ∀ (l : List (Nat × Value)), lsel l [2, 1, 0] = [(2, .int (j5)), (1, .int (x1)), (0, .ref o0)] → WR p la e (rmD 2 0 0) s m args below meth c D cA B0 3 (RdO iP h) 2 l [] h 0 0 := by
    refine loopUp (fun j5 ih2 => ?_)
    intro l hl
    refine WS.sel [2, 1, 0] hl ?_
    iterate 2 refine fst1_ok X (dk rfl) rfl ?_
    refine br_ok X (dk rfl) rfl (show ((4 : Nat) : Int) + 21 = ((25 : Nat) : Int) from rfl) (fun c8 => ?_) (fun c9 => ?_)
    · refine fst1_ok X (dk rfl) rfl ?_
      exact reti_ok X hr hlk rfl (dk rfl) ⟨⟨_, rfl⟩, rfl⟩ (Nat.le_of_ble_eq_true rfl) (Nat.le_of_ble_eq_true rfl)
    · iterate 4 refine fst1_ok X (dk rfl) rfl ?_
      refine callVR_ok (ci := 7) (T := TX5) (N := 3) (av := [.int _, .ref _, .int _]) (r := []) X E (c5_isLikeAt _ (TI.rf I).1 T0 _ T0 _) lkX5_isLikeAt mlX5_68 lmX5_isLikeAt lpX5_isLikeAt ⟨Nat.le_of_ble_eq_true rfl, Nat.le_of_ble_eq_true rfl⟩ ⟨Nat.le_of_ble_eq_true rfl, Nat.le_of_ble_eq_true rfl⟩ rfl (tm_cell (TI.rf I).1 gb3) (Nat.le_of_ble_eq_true rfl) (dk rfl) ?_
      rintro _ ⟨b10, rfl⟩
      refine br_ok X (dk rfl) rfl (show ((14 : Nat) : Int) + 5 = ((19 : Nat) : Int) from rfl) (fun c11 => ?_) (fun c12 => ?_)
      · refine fst1_ok X (dk rfl) rfl ?_
        refine br_ok X (dk rfl) rfl (show ((22 : Nat) : Int) + (-20) = ((2 : Nat) : Int) from rfl) (fun _ => ?_) (fun q => absurd trivial q)
        exact ih2 _ (nlt_of c9) _ rfl
      · refine fst1_ok X (dk rfl) rfl ?_
        exact reti_ok X hr hlk rfl (dk rfl) ⟨⟨_, rfl⟩, rfl⟩ (Nat.le_of_ble_eq_true rfl) (Nat.le_of_ble_eq_true rfl)
  iterate 2 refine fst1_ok X (dk rfl) rfl ?_
  exact L2 _ _ rfl
set_option maxHeartbeats 4000000 in
theorem FZ.c5_unlikePlaces (h : AH) (I : Tyg Γ h) {o0 L0 : Nat} {w0 : Bool} (T0 : TermG w0 Γ o0 L0) : CT la D cA B0 pa yX5_unlikePlaces cX5_unlikePlaces 3 (some .int) (rmD 3 0 0) [.ref o0] h (RdO iP h) := by
  refine CT_of (by decide +kernel) (Nat.le_of_ble_eq_true rfl) ?_
  intro p e s m args below meth c X E hr hlk hnm
  have dk : ∀ {pc : Nat} {q : Instr × Nat}, lkd DX5_unlikePlaces pc = some q → decode cX5_unlikePlaces pc = .ok q := lkd_ok DX5_unlikePlaces_ok
  obtain ⟨hL2, q1, gb3, gl4⟩ := id T0
  have L4 : ∀ j5 : Int32, ∀ (y6 : Int32) (l : List (Nat × Value)), lsel l [2, 1, 0] = [(2, .int (j5)), (1, .int (y6)), (0, .ref o0)] → WR p la e (rmD 3 0 0) s m args below meth c D cA B0 3 (RdO iP h) 4 l [] h 0 0 := by
    refine loopUp (fun j5 ih4 => ?_)
    intro y6 l hl
    refine WS.sel [2, 1, 0] hl ?_
    iterate 2 refine fst1_ok X (dk rfl) rfl ?_
    obtain ⟨f8, t9, hx10, hf11⟩ := tm_open (TI.rf I).1 gb3
    refine getf_ok X flX5_21 (dk rfl) hx10 rfl ?_
    refine br_ok X (dk rfl) rfl (show ((9 : Nat) : Int) + 21 = ((30 : Nat) : Int) from rfl) (fun c12 => ?_) (fun c13 => ?_)
    · refine fst1_ok X (dk rfl) rfl ?_
      exact reti_ok X hr hlk rfl (dk rfl) ⟨⟨_, rfl⟩, rfl⟩ (Nat.le_of_ble_eq_true rfl) (Nat.le_of_ble_eq_true rfl)
    · iterate 2 refine fst1_ok X (dk rfl) rfl ?_
      refine callVR_ok (ci := 7) (T := TX5) (N := 3) (av := [.int _]) (r := []) X E (c5_firstLike _ (TI.rf I).1 T0 _) lkX5_firstLike mlX5_72 lmX5_firstLike lpX5_firstLike ⟨Nat.le_of_ble_eq_true rfl, Nat.le_of_ble_eq_true rfl⟩ ⟨Nat.le_of_ble_eq_true rfl, Nat.le_of_ble_eq_true rfl⟩ rfl (tm_cell (TI.rf I).1 gb3) (Nat.le_of_ble_eq_true rfl) (dk rfl) ?_
      rintro _ ⟨x14, rfl⟩
      refine fst1_ok X (dk rfl) rfl ?_
      refine br_ok X (dk rfl) rfl (show ((18 : Nat) : Int) + 6 = ((24 : Nat) : Int) from rfl) (fun c15 => ?_) (fun c16 => ?_)
      · refine fst1_ok X (dk rfl) rfl ?_
        refine br_ok X (dk rfl) rfl (show ((27 : Nat) : Int) + (-23) = ((4 : Nat) : Int) from rfl) (fun _ => ?_) (fun q => absurd trivial q)
        exact ih4 _ (nlt_of c13) _ _ rfl
      · iterate 2 refine fst1_ok X (dk rfl) rfl ?_
        refine br_ok X (dk rfl) rfl (show ((27 : Nat) : Int) + (-23) = ((4 : Nat) : Int) from rfl) (fun _ => ?_) (fun q => absurd trivial q)
        exact ih4 _ (nlt_of c13) _ _ rfl
  iterate 4 refine fst1_ok X (dk rfl) rfl ?_
  exact L4 _ _ _ rfl
set_option maxHeartbeats 4000000 in
theorem FZ.c5_placesOf (h : AH) (I : Tyg Γ h) {o0 L0 : Nat} {w0 : Bool} (T0 : TermG w0 Γ o0 L0) (x1 : Int32) : CT la D cA B0 pa yX5_placesOf cX5_placesOf 4 (some .int) (rmD 1 0 0) [.ref o0, .int (x1)] h (RdO iP h) := by
  refine CT_of (by decide +kernel) (Nat.le_of_ble_eq_true rfl) ?_
  intro p e s m args below meth c X E hr hlk hnm
  have dk : ∀ {pc : Nat} {q : Instr × Nat}, lkd DX5_placesOf pc = some q → decode cX5_placesOf pc = .ok q := lkd_ok DX5_placesOf_ok
  obtain ⟨hL2, q1, gb3, gl4⟩ := id T0
  have L4 : ∀ j5 : Int32, ∀ (y6 : Int32) (l : List (Nat × Value)), lsel l [3, 2, 1, 0] = [(3, .int (j5)), (2, .int (y6)), (1, .int (x1)), (0, .ref o0)] → WR p la e (rmD 1 0 0) s m args below meth c D cA B0 4 (RdO iP h) 4 l [] h 0 0 := by
    refine loopUp (fun j5 ih4 => ?_)
    intro y6 l hl
    refine WS.sel [3, 2, 1, 0] hl ?_
    iterate 2 refine fst1_ok X (dk rfl) rfl ?_
    obtain ⟨f9, t10, hx11, hf12⟩ := tm_open (TI.rf I).1 gb3
    refine getf_ok X flX5_21 (dk rfl) hx11 rfl ?_
    refine br_ok X (dk rfl) rfl (show ((9 : Nat) : Int) + 21 = ((30 : Nat) : Int) from rfl) (fun c13 => ?_) (fun c14 => ?_)
    · refine fst1_ok X (dk rfl) rfl ?_
      exact reti_ok X hr hlk rfl (dk rfl) ⟨⟨_, rfl⟩, rfl⟩ (Nat.le_of_ble_eq_true rfl) (Nat.le_of_ble_eq_true rfl)
    · iterate 2 refine fst1_ok X (dk rfl) rfl ?_
      refine callVR_ok (ci := 7) (T := TX5) (N := 3) (av := [.int _]) (r := []) X E (c5_letterAt _ (TI.rf I).1 T0 _) lkX5_letterAt mlX5_29 lmX5_letterAt lpX5_letterAt ⟨Nat.le_of_ble_eq_true rfl, Nat.le_of_ble_eq_true rfl⟩ ⟨Nat.le_of_ble_eq_true rfl, Nat.le_of_ble_eq_true rfl⟩ rfl (tm_cell (TI.rf I).1 gb3) (Nat.le_of_ble_eq_true rfl) (dk rfl) ?_
      rintro _ ⟨x15, hx16, rfl⟩
      refine fst1_ok X (dk rfl) rfl ?_
      refine br_ok X (dk rfl) rfl (show ((18 : Nat) : Int) + 6 = ((24 : Nat) : Int) from rfl) (fun c17 => ?_) (fun c18 => ?_)
      · refine fst1_ok X (dk rfl) rfl ?_
        refine br_ok X (dk rfl) rfl (show ((27 : Nat) : Int) + (-23) = ((4 : Nat) : Int) from rfl) (fun _ => ?_) (fun q => absurd trivial q)
        exact ih4 _ (nlt_of c14) _ _ rfl
      · iterate 2 refine fst1_ok X (dk rfl) rfl ?_
        refine br_ok X (dk rfl) rfl (show ((27 : Nat) : Int) + (-23) = ((4 : Nat) : Int) from rfl) (fun _ => ?_) (fun q => absurd trivial q)
        exact ih4 _ (nlt_of c14) _ _ rfl
  iterate 4 refine fst1_ok X (dk rfl) rfl ?_
  exact L4 _ _ _ rfl
set_option maxHeartbeats 4000000 in
theorem FZ.c5_allNames (h : AH) (I : Tyg Γ h) {o0 L0 : Nat} {w0 : Bool} (T0 : TermG w0 Γ o0 L0) : CT la D cA B0 pa yX5_allNames cX5_allNames 1 (some .int) (rmD 2 0 0) [.ref o0] h (RdO iP h) := by
  refine CT_of (by decide +kernel) (Nat.le_of_ble_eq_true rfl) ?_
  intro p e s m args below meth c X E hr hlk hnm
  have dk : ∀ {pc : Nat} {q : Instr × Nat}, lkd DX5_allNames pc = some q → decode cX5_allNames pc = .ok q := lkd_ok DX5_allNames_ok
  obtain ⟨hL2, q1, gb3, gl4⟩ := id T0
  iterate 3 refine fst1_ok X (dk rfl) rfl ?_
  obtain ⟨f5, t6, hx7, hf8⟩ := tm_open (TI.rf I).1 gb3
  refine getf_ok X flX5_21 (dk rfl) hx7 rfl ?_
  refine callVR_ok (ci := 7) (T := TX5) (N := 3) (av := [.int _, .int _]) (r := []) X E (c5_namesIn _ (TI.rf I).1 T0 _ _) lkX5_namesIn mlX5_51 lmX5_namesIn lpX5_namesIn ⟨Nat.le_of_ble_eq_true rfl, Nat.le_of_ble_eq_true rfl⟩ ⟨Nat.le_of_ble_eq_true rfl, Nat.le_of_ble_eq_true rfl⟩ rfl (tm_cell (TI.rf I).1 gb3) (Nat.le_of_ble_eq_true rfl) (dk rfl) ?_
  rintro _ ⟨x9, rfl⟩
  exact reti_ok X hr hlk rfl (dk rfl) ⟨⟨_, rfl⟩, rfl⟩ (Nat.le_of_ble_eq_true rfl) (Nat.le_of_ble_eq_true rfl)
set_option maxHeartbeats 4000000 in
theorem FZ.c5_becomeBoth (h : AH) (I : Tyg Γ h) {o0 L0 : Nat} (T0 : TermG true Γ o0 L0) {o1 L1 : Nat} {w1 : Bool} (T1 : TermG w1 Γ o1 L1) {o2 L2 : Nat} {w2 : Bool} (T2 : TermG w2 Γ o2 L2) : CT la D cA B0 pa yX5_becomeBoth cX5_becomeBoth 3 none (rmD 2 0 0) [.ref o0, .ref o1, .ref o2] h (WrO Γ voidP h) := by
  refine CT_of (by decide +kernel) (Nat.le_of_ble_eq_true rfl) ?_
  intro p e s m args below meth c X E hr hlk hnm
  have dk : ∀ {pc : Nat} {q : Instr × Nat}, lkd DX5_becomeBoth pc = some q → decode cX5_becomeBoth pc = .ok q := lkd_ok DX5_becomeBoth_ok
  obtain ⟨hL2, q1, gb3, gl4⟩ := id T0
  obtain ⟨hL6, q5, gb7, gl8⟩ := id T1
  obtain ⟨hL10, q9, gb11, gl12⟩ := id T2
  refine fst1_ok X (dk rfl) rfl ?_
  refine callVW_ok (ci := 7) (T := TX5) (N := 3) (av := []) (r := []) X E (TI.rf I) (c5_empty _ (TI.rf I).1 T0) lkX5_empty mlX5_37 lmX5_empty lpX5_empty ⟨Nat.le_of_ble_eq_true rfl, Nat.le_of_ble_eq_true rfl⟩ ⟨Nat.le_of_ble_eq_true rfl, Nat.le_of_ble_eq_true rfl⟩ rfl (tm_cell (TI.rf I).1 gb3) (Nat.le_of_ble_eq_true rfl) (dk rfl) ?_
  rintro _ h13 rfl J14
  iterate 2 refine fst1_ok X (dk rfl) rfl ?_
  refine callVW_ok (ci := 7) (T := TX5) (N := 3) (av := [.ref _]) (r := []) X E J14 (c5_addTerm _ J14.1 T0 T1) lkX5_addTerm mlX5_40 lmX5_addTerm lpX5_addTerm ⟨Nat.le_of_ble_eq_true rfl, Nat.le_of_ble_eq_true rfl⟩ ⟨Nat.le_of_ble_eq_true rfl, Nat.le_of_ble_eq_true rfl⟩ rfl (tm_cell J14.1 gb3) (Nat.le_of_ble_eq_true rfl) (dk rfl) ?_
  rintro _ h15 rfl J16
  iterate 2 refine fst1_ok X (dk rfl) rfl ?_
  refine callVW_ok (ci := 7) (T := TX5) (N := 3) (av := [.ref _]) (r := []) X E J16 (c5_addTerm _ J16.1 T0 T2) lkX5_addTerm mlX5_40 lmX5_addTerm lpX5_addTerm ⟨Nat.le_of_ble_eq_true rfl, Nat.le_of_ble_eq_true rfl⟩ ⟨Nat.le_of_ble_eq_true rfl, Nat.le_of_ble_eq_true rfl⟩ rfl (tm_cell J16.1 gb3) (Nat.le_of_ble_eq_true rfl) (dk rfl) ?_
  rintro _ h17 rfl J18
  exact retv_ok X hr hlk (dk rfl) ⟨rfl, J18⟩ (Nat.le_of_ble_eq_true rfl) (Nat.le_of_ble_eq_true rfl)
end M88
end Ud01f5
section Ud02f2
/-! the class, weakly, over types that keep contents: pairs (printed by wip/p20/genFZ.py from wip/p40/cl0.py) -/
section M89
variable {la : Launch} {D : va_G} {cA : Nat → ClassId} {B0 pa : Nat} {Γ : TY}
set_option maxHeartbeats 4000000 in
theorem FZ.c2_length (h : AH) (I : Tyg Γ h) {o0 : Nat} (T0 : PairsT Γ o0) : CT la D cA B0 pa yX2_length cX2_length 1 (some .int) (rmD 0 0 0) [.ref o0] h (RdO (nP 128) h) := by
  refine CT_of (by decide +kernel) (Nat.le_of_ble_eq_true rfl) ?_
  intro p e s m args below meth c X E hr hlk hnm
  have dk : ∀ {pc : Nat} {q : Instr × Nat}, lkd DX2_length pc = some q → decode cX2_length pc = .ok q := lkd_ok DX2_length_ok
  obtain ⟨a1, a2, gb3, g4, g5⟩ := id T0
  refine fst1_ok X (dk rfl) rfl ?_
  obtain ⟨w6, hx7, hf8⟩ := pr_open (TI.rf I).1 gb3
  refine getf_ok X flX2_18 (dk rfl) hx7 rfl ?_
  exact reti_ok X hr hlk rfl (dk rfl) ⟨⟨_, hf8, rfl⟩, rfl⟩ (Nat.le_of_ble_eq_true rfl) (Nat.le_of_ble_eq_true rfl)
set_option maxHeartbeats 4000000 in
theorem FZ.c2_empty (h : AH) (I : Tyg Γ h) {o0 : Nat} (T0 : PairsT Γ o0) : CT la D cA B0 pa yX2_empty cX2_empty 1 none (rmD 0 0 0) [.ref o0] h (WrO Γ voidP h) := by
  refine CT_of (by decide +kernel) (Nat.le_of_ble_eq_true rfl) ?_
  intro p e s m args below meth c X E hr hlk hnm
  have dk : ∀ {pc : Nat} {q : Instr × Nat}, lkd DX2_empty pc = some q → decode cX2_empty pc = .ok q := lkd_ok DX2_empty_ok
  obtain ⟨a1, a2, gb3, g4, g5⟩ := id T0
  iterate 2 refine fst1_ok X (dk rfl) rfl ?_
  obtain ⟨w6, hx7, hf8⟩ := pr_open (TI.rf I).1 gb3
  refine putT_ok X flX2_18 ftX2_2 rfl rfl (dk rfl) hx7 (Nat.le_of_ble_eq_true rfl) (TI.rf I) gb3 rfl (pr_set (w' := 0) nI_0' (by omega)) (fun h9 J10 hx11 ho12 => ?_)
  exact retv_ok X hr hlk (dk rfl) ⟨rfl, J10⟩ (Nat.le_of_ble_eq_true rfl) (Nat.le_of_ble_eq_true rfl)
set_option maxHeartbeats 4000000 in
theorem FZ.c2_add (h : AH) (I : Tyg Γ h) {o0 : Nat} (T0 : PairsT Γ o0) (x1 : Int32) (x2 : Int32) : CT la D cA B0 pa yX2_add cX2_add 3 none (rmD 0 0 0) [.ref o0, .int (x1), .int (x2)] h (WrO Γ voidP h) := by
  refine CT_of (by decide +kernel) (Nat.le_of_ble_eq_true rfl) ?_
  intro p e s m args below meth c X E hr hlk hnm
  have dk : ∀ {pc : Nat} {q : Instr × Nat}, lkd DX2_add pc = some q → decode cX2_add pc = .ok q := lkd_ok DX2_add_ok
  obtain ⟨a1, a2, gb3, g4, g5⟩ := id T0
  refine fst1_ok X (dk rfl) rfl ?_
  obtain ⟨w6, hx7, hf8⟩ := pr_open (TI.rf I).1 gb3
  refine getf_ok X flX2_18 (dk rfl) hx7 rfl ?_
  refine br_ok X (dk rfl) rfl (show ((4 : Nat) : Int) + 43 = ((47 : Nat) : Int) from rfl) (fun c9 => ?_) (fun c10 => ?_)
  · exact retv_ok X hr hlk (dk rfl) ⟨rfl, (TI.rf I)⟩ (Nat.le_of_ble_eq_true rfl) (Nat.le_of_ble_eq_true rfl)
  · refine fst1_ok X (dk rfl) rfl ?_
    refine getf_ok X flX2_18 (dk rfl) hx7 rfl ?_
    refine fst1_ok X (dk rfl) rfl ?_
    refine br_ok X (dk rfl) rfl (show ((14 : Nat) : Int) + 33 = ((47 : Nat) : Int) from rfl) (fun c11 => ?_) (fun c12 => ?_)
    · exact retv_ok X hr hlk (dk rfl) ⟨rfl, (TI.rf I)⟩ (Nat.le_of_ble_eq_true rfl) (Nat.le_of_ble_eq_true rfl)
    · refine fst1_ok X (dk rfl) rfl ?_
      refine getf_ok X flX2_11 (dk rfl) hx7 rfl ?_
      refine fst1_ok X (dk rfl) rfl ?_
      refine getf_ok X flX2_18 (dk rfl) hx7 rfl ?_
      refine fst1_ok X (dk rfl) rfl ?_
      obtain ⟨xs13, hx14, hn15⟩ := rw_open (TI.rf I).1 g4
      refine astT_ok X (dk rfl) hx14 (nI_pos (by omega)) (by rw [hn15]; exact ix_ok (by omega) (nI_pos (by omega)) (by rw [show nI 128 = (Int16.ofInt 128).toInt32 by decide +kernel]; exact c12)) (TI.rf I) g4 (rowφ_set hn15 _ _) (fun h16 J17 ho18 => ?_)
      have hx19 := (ho18 o0 (k_ne hx7 hx14 (by decide))).trans hx7
      refine fst1_ok X (dk rfl) rfl ?_
      refine getf_ok X flX2_15 (dk rfl) hx19 rfl ?_
      refine fst1_ok X (dk rfl) rfl ?_
      refine getf_ok X flX2_18 (dk rfl) hx19 rfl ?_
      refine fst1_ok X (dk rfl) rfl ?_
      obtain ⟨xs20, hx21, hn22⟩ := rw_open J17.1 g5
      refine astT_ok X (dk rfl) hx21 (nI_pos (by omega)) (by rw [hn22]; exact ix_ok (by omega) (nI_pos (by omega)) (by rw [show nI 128 = (Int16.ofInt 128).toInt32 by decide +kernel]; exact c12)) J17 g5 (rowφ_set hn22 _ _) (fun h23 J24 ho25 => ?_)
      have hx26 := (ho25 o0 (k_ne hx19 hx21 (by decide))).trans hx19
      iterate 2 refine fst1_ok X (dk rfl) rfl ?_
      refine getf_ok X flX2_18 (dk rfl) hx26 rfl ?_
      iterate 2 refine fst1_ok X (dk rfl) rfl ?_
      refine putT_ok X flX2_18 ftX2_2 rfl rfl (dk rfl) hx26 (Nat.le_of_ble_eq_true rfl) J24 gb3 rfl (pr_set (w' := w6 + 1) (by rw [nI_1', nI_add]) (nat_lt (K := 128) (by omega) (by rw [show nI 128 = (Int16.ofInt 128).toInt32 by decide +kernel]; exact c12))) (fun h27 J28 hx29 ho30 => ?_)
      exact retv_ok X hr hlk (dk rfl) ⟨rfl, J28⟩ (Nat.le_of_ble_eq_true rfl) (Nat.le_of_ble_eq_true rfl)
set_option maxHeartbeats 4000000 in
theorem FZ.c2_oneAt (h : AH) (I : Tyg Γ h) {o0 : Nat} (T0 : PairsT Γ o0) (x1 : Int32) : CT la D cA B0 pa yX2_oneAt cX2_oneAt 2 (some .int) (rmD 0 0 0) [.ref o0, .int (x1)] h (RdO iP h) := by
  refine CT_of (by decide +kernel) (Nat.le_of_ble_eq_true rfl) ?_
  intro p e s m args below meth c X E hr hlk hnm
  have dk : ∀ {pc : Nat} {q : Instr × Nat}, lkd DX2_oneAt pc = some q → decode cX2_oneAt pc = .ok q := lkd_ok DX2_oneAt_ok
  obtain ⟨a1, a2, gb3, g4, g5⟩ := id T0
  refine fst1_ok X (dk rfl) rfl ?_
  refine br_ok X (dk rfl) rfl (show ((1 : Nat) : Int) + 27 = ((28 : Nat) : Int) from rfl) (fun c6 => ?_) (fun c7 => ?_)
  · refine fst1_ok X (dk rfl) rfl ?_
    exact reti_ok X hr hlk rfl (dk rfl) ⟨⟨_, rfl⟩, rfl⟩ (Nat.le_of_ble_eq_true rfl) (Nat.le_of_ble_eq_true rfl)
  · iterate 2 refine fst1_ok X (dk rfl) rfl ?_
    obtain ⟨w8, hx9, hf10⟩ := pr_open (TI.rf I).1 gb3
    refine getf_ok X flX2_18 (dk rfl) hx9 rfl ?_
    refine br_ok X (dk rfl) rfl (show ((9 : Nat) : Int) + 19 = ((28 : Nat) : Int) from rfl) (fun c11 => ?_) (fun c12 => ?_)
    · refine fst1_ok X (dk rfl) rfl ?_
      exact reti_ok X hr hlk rfl (dk rfl) ⟨⟨_, rfl⟩, rfl⟩ (Nat.le_of_ble_eq_true rfl) (Nat.le_of_ble_eq_true rfl)
    · iterate 2 refine fst1_ok X (dk rfl) rfl ?_
      refine br_ok X (dk rfl) rfl (show ((16 : Nat) : Int) + 12 = ((28 : Nat) : Int) from rfl) (fun c13 => ?_) (fun c14 => ?_)
      · refine fst1_ok X (dk rfl) rfl ?_
        exact reti_ok X hr hlk rfl (dk rfl) ⟨⟨_, rfl⟩, rfl⟩ (Nat.le_of_ble_eq_true rfl) (Nat.le_of_ble_eq_true rfl)
      · refine fst1_ok X (dk rfl) rfl ?_
        refine getf_ok X flX2_11 (dk rfl) hx9 rfl ?_
        refine fst1_ok X (dk rfl) rfl ?_
        obtain ⟨xs15, hx16, hn17⟩ := rw_open (TI.rf I).1 g4
        refine ald7_ok X (dk rfl) hx16 c7 (by rw [hn17]; exact ix_ok (by omega) c7 (by rw [show nI 128 = (Int16.ofInt 128).toInt32 by decide +kernel]; exact c14)) (fun x18 hm19 => ?_)
        refine br_ok X (dk rfl) rfl (show ((25 : Nat) : Int) + 4 = ((29 : Nat) : Int) from rfl) (fun _ => ?_) (fun q => absurd trivial q)
        exact reti_ok X hr hlk rfl (dk rfl) ⟨⟨_, rfl⟩, rfl⟩ (Nat.le_of_ble_eq_true rfl) (Nat.le_of_ble_eq_true rfl)
set_option maxHeartbeats 4000000 in
theorem FZ.c2_otherAt (h : AH) (I : Tyg Γ h) {o0 : Nat} (T0 : PairsT Γ o0) (x1 : Int32) : CT la D cA B0 pa yX2_otherAt cX2_otherAt 2 (some .int) (rmD 0 0 0) [.ref o0, .int (x1)] h (RdO iP h) := by
  refine CT_of (by decide +kernel) (Nat.le_of_ble_eq_true rfl) ?_
  intro p e s m args below meth c X E hr hlk hnm
  have dk : ∀ {pc : Nat} {q : Instr × Nat}, lkd DX2_otherAt pc = some q → decode cX2_otherAt pc = .ok q := lkd_ok DX2_otherAt_ok
  obtain ⟨a1, a2, gb3, g4, g5⟩ := id T0
  refine fst1_ok X (dk rfl) rfl ?_
  refine br_ok X (dk rfl) rfl (show ((1 : Nat) : Int) + 27 = ((28 : Nat) : Int) from rfl) (fun c6 => ?_) (fun c7 => ?_)
  · refine fst1_ok X (dk rfl) rfl ?_
    exact reti_ok X hr hlk rfl (dk rfl) ⟨⟨_, rfl⟩, rfl⟩ (Nat.le_of_ble_eq_true rfl) (Nat.le_of_ble_eq_true rfl)
  · iterate 2 refine fst1_ok X (dk rfl) rfl ?_
    obtain ⟨w8, hx9, hf10⟩ := pr_open (TI.rf I).1 gb3
    refine getf_ok X flX2_18 (dk rfl) hx9 rfl ?_
    refine br_ok X (dk rfl) rfl (show ((9 : Nat) : Int) + 19 = ((28 : Nat) : Int) from rfl) (fun c11 => ?_) (fun c12 => ?_)
    · refine fst1_ok X (dk rfl) rfl ?_
      exact reti_ok X hr hlk rfl (dk rfl) ⟨⟨_, rfl⟩, rfl⟩ (Nat.le_of_ble_eq_true rfl) (Nat.le_of_ble_eq_true rfl)
    · iterate 2 refine fst1_ok X (dk rfl) rfl ?_
      refine br_ok X (dk rfl) rfl (show ((16 : Nat) : Int) + 12 = ((28 : Nat) : Int) from rfl) (fun c13 => ?_) (fun c14 => ?_)
      · refine fst1_ok X (dk rfl) rfl ?_
        exact reti_ok X hr hlk rfl (dk rfl) ⟨⟨_, rfl⟩, rfl⟩ (Nat.le_of_ble_eq_true rfl) (Nat.le_of_ble_eq_true rfl)
      · refine fst1_ok X (dk rfl) rfl ?_
        refine getf_ok X flX2_15 (dk rfl) hx9 rfl ?_
        refine fst1_ok X (dk rfl) rfl ?_
        obtain ⟨xs15, hx16, hn17⟩ := rw_open (TI.rf I).1 g5
        refine ald7_ok X (dk rfl) hx16 c7 (by rw [hn17]; exact ix_ok (by omega) c7 (by rw [show nI 128 = (Int16.ofInt 128).toInt32 by decide +kernel]; exact c14)) (fun x18 hm19 => ?_)
        refine br_ok X (dk rfl) rfl (show ((25 : Nat) : Int) + 4 = ((29 : Nat) : Int) from rfl) (fun _ => ?_) (fun q => absurd trivial q)
        exact reti_ok X hr hlk rfl (dk rfl) ⟨⟨_, rfl⟩, rfl⟩ (Nat.le_of_ble_eq_true rfl) (Nat.le_of_ble_eq_true rfl)
set_option maxHeartbeats 4000000 in
theorem FZ.c2_dropNext (h : AH) (I : Tyg Γ h) {o0 : Nat} (T0 : PairsT Γ o0) : CT la D cA B0 pa yX2_dropNext cX2_dropNext 1 none (rmD 0 0 0) [.ref o0] h (WrO Γ voidP h) := by
  refine CT_of (by decide +kernel) (Nat.le_of_ble_eq_true rfl) ?_
  intro p e s m args below meth c X E hr hlk hnm
  have dk : ∀ {pc : Nat} {q : Instr × Nat}, lkd DX2_dropNext pc = some q → decode cX2_dropNext pc = .ok q := lkd_ok DX2_dropNext_ok
  obtain ⟨a1, a2, gb3, g4, g5⟩ := id T0
  refine fst1_ok X (dk rfl) rfl ?_
  obtain ⟨w6, hx7, hf8⟩ := pr_open (TI.rf I).1 gb3
  refine getf_ok X flX2_18 (dk rfl) hx7 rfl ?_
  refine br_ok X (dk rfl) rfl (show ((4 : Nat) : Int) + 13 = ((17 : Nat) : Int) from rfl) (fun c9 => ?_) (fun c10 => ?_)
  · exact retv_ok X hr hlk (dk rfl) ⟨rfl, (TI.rf I)⟩ (Nat.le_of_ble_eq_true rfl) (Nat.le_of_ble_eq_true rfl)
  · iterate 2 refine fst1_ok X (dk rfl) rfl ?_
    refine getf_ok X flX2_18 (dk rfl) hx7 rfl ?_
    iterate 2 refine fst1_ok X (dk rfl) rfl ?_
    refine putT_ok X flX2_18 ftX2_2 rfl rfl (dk rfl) hx7 (Nat.le_of_ble_eq_true rfl) (TI.rf I) gb3 rfl (pr_set (w' := w6 - 1) (by rw [nI_1']; exact nI_sub (nI_ngt0 (by omega) c10)) (by omega)) (fun h11 J12 hx13 ho14 => ?_)
    exact retv_ok X hr hlk (dk rfl) ⟨rfl, J12⟩ (Nat.le_of_ble_eq_true rfl) (Nat.le_of_ble_eq_true rfl)
end M89
section M89b
variable {la : Launch} {D : va_G} {cA : Nat → ClassId} {B0 pa : Nat} {Γ : TY}
set_option maxHeartbeats 4000000 in
theorem FZ.c2_addParts (h : AH) (I : Tyg Γ h) {o0 : Nat} (T0 : PairsT Γ o0) {o1 L1 : Nat} {w1 : Bool} (T1 : TermG w1 Γ o1 L1) (x2 : Int32) (x3 : Int32) : CT la D cA B0 pa yX2_addParts cX2_addParts 8 none (rmD 2 0 0) [.ref o0, .ref o1, .int (x2), .int (x3)] h (WrO Γ voidP h) := by
  refine CT_of (by decide +kernel) (Nat.le_of_ble_eq_true rfl) ?_
  intro p e s m args below meth c X E hr hlk hnm
  have dk : ∀ {pc : Nat} {q : Instr × Nat}, lkd DX2_addParts pc = some q → decode cX2_addParts pc = .ok q := lkd_ok DX2_addParts_ok
  obtain ⟨a1, a2, gb, g1, g2⟩ := id T0
  obtain ⟨hL1, q1, gb1, gl1⟩ := id T1
  obtain ⟨w, hx, hw⟩ := pr_open I gb
  iterate 2 refine fst1_ok X (dk rfl) rfl ?_
  refine callVR_ok (ci := 7) (T := TX5) (N := 3) (av := [.int _]) (r := []) X E (c5_letterAt _ I T1 _) lkX5_letterAt mlX2_22 lmX5_letterAt lpX5_letterAt ⟨Nat.le_of_ble_eq_true rfl, Nat.le_of_ble_eq_true rfl⟩ ⟨Nat.le_of_ble_eq_true rfl, Nat.le_of_ble_eq_true rfl⟩ rfl (tm_cell I gb1) (Nat.le_of_ble_eq_true rfl) (dk rfl) ?_
  rintro _ ⟨z1, -, rfl⟩
  refine callNR_ok (av := [.int _]) (r := []) X E (c6_partsOf _ I _) lkX6_partsOf mnX2_28 lsX6_partsOf ⟨Nat.le_of_ble_eq_true rfl, Nat.le_of_ble_eq_true rfl⟩ ⟨Nat.le_of_ble_eq_true rfl, Nat.le_of_ble_eq_true rfl⟩ (Nat.le_of_ble_eq_true rfl) (dk rfl) ?_
  rintro _ ⟨np, hnp, rfl⟩
  iterate 2 refine fst1_ok X (dk rfl) rfl ?_
  refine getf_ok X flX2_18 (dk rfl) hx rfl ?_
  have e1 : (nI w + nI np : Int32) = nI (w + np) := nI_add w np
  have fin' : ∀ l : List (Nat × Value), WR p la e (rmD 2 0 0) s m args below meth c D cA B0 8 (WrO Γ voidP h) 30 l [] h 0 0 := fun l => retv_ok X hr hlk (dk rfl) ⟨rfl, TI.rf I⟩ (Nat.le_of_ble_eq_true rfl) (Nat.le_of_ble_eq_true rfl)
  refine br_ok X (dk rfl) rfl (show ((14 : Nat) : Int) + 16 = ((30 : Nat) : Int) from rfl) (fun _ => fin' _) (fun _ => ?_)
  refine fst1_ok X (dk rfl) rfl ?_
  refine getf_ok X flX2_18 (dk rfl) hx rfl ?_
  iterate 3 refine fst1_ok X (dk rfl) rfl ?_
  refine br_ok X (dk rfl) rfl (show ((27 : Nat) : Int) + 4 = ((31 : Nat) : Int) from rfl) (fun c1 => ?_) (fun _ => fin' _)
  have hwp : w + np ≤ 128 := by
    rw [e1, show (Int16.ofInt 128).toInt32 = nI 128 by decide +kernel] at c1
    exact nI_ge' (by omega) (by omega) c1
  have loop : ∀ i : Nat, i ≤ np → ∀ (y5 y6 : Int32) (h1 : AH) (J1 : TI Γ h h1) (hx1 : h1 o0 = some (4, [.ref a1, .ref a2, vI w])) (l : List (Nat × Value)), lsel l [7, 6, 5, 4, 1, 0] = [(7, .int (nI (w + i) + Int32.ofInt (-1))), (6, .int y6), (5, .int y5), (4, vI np), (1, .ref o1), (0, .ref o0)] → WR p la e (rmD 2 0 0) s m args below meth c D cA B0 8 (WrO Γ voidP h) 52 l [] h1 0 0 := by
    intro i
    induction i with
    | zero =>
      intro hi y5 y6 h1 J1 hx1 l hl
      refine WS.sel [7, 6, 5, 4, 1, 0] hl ?_
      iterate 2 refine fst1_ok X (dk rfl) rfl ?_
      refine getf_ok X flX2_18 (dk rfl) hx1 rfl ?_
      have hlt : (nI (w + 0) + Int32.ofInt (-1) : Int32) < nI w := by
        rw [Nat.add_zero, Int32.lt_iff_toInt_lt, Int32.toInt_add, show (Int32.ofInt (-1)).toInt = -1 by decide]
        have e2 : (nI w).toInt = (w : Int) := by
          show (Int32.ofNat w).toInt = _
          exact Int32.toInt_ofNat_of_lt (by omega)
        rw [e2, Int.bmod_eq_of_le (by omega) (by omega)]
        omega
      refine br_ok X (dk rfl) rfl (show ((58 : Nat) : Int) + 43 = ((101 : Nat) : Int) from rfl) (fun _ => ?_) (fun q => absurd hlt q)
      iterate 2 refine fst1_ok X (dk rfl) rfl ?_
      refine getf_ok X flX2_18 (dk rfl) hx1 rfl ?_
      iterate 2 refine fst1_ok X (dk rfl) rfl ?_
      refine putT_ok X flX2_18 ftX2_2 rfl rfl (dk rfl) hx1 (Nat.le_of_ble_eq_true rfl) J1 gb rfl (pr_set e1 hwp) (fun h2 J2 _ _ => ?_)
      exact retv_ok X hr hlk (dk rfl) ⟨rfl, J2⟩ (Nat.le_of_ble_eq_true rfl) (Nat.le_of_ble_eq_true rfl)
    | succ i ih =>
      intro hi y5 y6 h1 J1 hx1 l hl
      have es : (nI (w + (i + 1)) + Int32.ofInt (-1) : Int32) = nI (w + i) := nI_dec (w + i)
      rw [es] at hl
      obtain ⟨s1, s2⟩ := spot_ix hnp hwp (show i < np by omega)
      refine WS.sel [7, 6, 5, 4, 1, 0] hl ?_
      iterate 2 refine fst1_ok X (dk rfl) rfl ?_
      refine getf_ok X flX2_18 (dk rfl) hx1 rfl ?_
      refine br_ok X (dk rfl) rfl (show ((58 : Nat) : Int) + 43 = ((101 : Nat) : Int) from rfl) (fun q => absurd ((nI_ltI (by omega) (by omega)).mp q) (by omega)) (fun _ => ?_)
      refine fst1_ok X (dk rfl) rfl ?_
      refine getf_ok X flX2_11 (dk rfl) hx1 rfl ?_
      iterate 2 refine fst1_ok X (dk rfl) rfl ?_
      obtain ⟨xs1, hr1, hn1⟩ := rw_open J1.1 g1
      refine astT_ok X (dk rfl) hr1 s1 (by rw [hn1]; exact s2) J1 g1 (rowφ_set hn1 _ _) (fun h2 J2 ho2 => ?_)
      have hx2 := (ho2 o0 (k_ne hx1 hr1 (by decide))).trans hx1
      refine fst1_ok X (dk rfl) rfl ?_
      refine getf_ok X flX2_15 (dk rfl) hx2 rfl ?_
      iterate 2 refine fst1_ok X (dk rfl) rfl ?_
      obtain ⟨xs2, hr2, hn2⟩ := rw_open J2.1 g2
      refine astT_ok X (dk rfl) hr2 s1 (by rw [hn2]; exact s2) J2 g2 (rowφ_set hn2 _ _) (fun h3 J3 ho3 => ?_)
      have hx3 := (ho3 o0 (k_ne hx2 hr2 (by decide))).trans hx2
      iterate 2 refine fst1_ok X (dk rfl) rfl ?_
      refine callVR_ok (ci := 7) (T := TX5) (N := 3) (av := [.int _]) (r := []) X E (c5_endOf _ J3.1 T1 _) lkX5_endOf mlX2_31 lmX5_endOf lpX5_endOf ⟨Nat.le_of_ble_eq_true rfl, Nat.le_of_ble_eq_true rfl⟩ ⟨Nat.le_of_ble_eq_true rfl, Nat.le_of_ble_eq_true rfl⟩ rfl (tm_cell J3.1 gb1) (Nat.le_of_ble_eq_true rfl) (dk rfl) ?_
      rintro _ ⟨z5, rfl⟩
      iterate 3 refine fst1_ok X (dk rfl) rfl ?_
      refine callVR_ok (ci := 7) (T := TX5) (N := 3) (av := [.int _]) (r := []) X E (c5_endOf _ J3.1 T1 _) lkX5_endOf mlX2_31 lmX5_endOf lpX5_endOf ⟨Nat.le_of_ble_eq_true rfl, Nat.le_of_ble_eq_true rfl⟩ ⟨Nat.le_of_ble_eq_true rfl, Nat.le_of_ble_eq_true rfl⟩ rfl (tm_cell J3.1 gb1) (Nat.le_of_ble_eq_true rfl) (dk rfl) ?_
      rintro _ ⟨z6, rfl⟩
      iterate 2 refine fst1_ok X (dk rfl) rfl ?_
      refine br_ok X (dk rfl) rfl (show ((98 : Nat) : Int) + (-46) = ((52 : Nat) : Int) from rfl) (fun _ => ?_) (fun q => absurd trivial q)
      exact ih (by omega) z5 z6 h3 J3 hx3 _ rfl
  iterate 9 refine fst1_ok X (dk rfl) rfl ?_
  refine getf_ok X flX2_18 (dk rfl) hx rfl ?_
  iterate 5 refine fst1_ok X (dk rfl) rfl ?_
  have e3 : (nI w + nI np - Int32.ofInt 1 : Int32) = nI (w + np) + Int32.ofInt (-1) := by
    rw [e1]
    apply Int32.toInt_inj.mp
    have e2 : (nI (w + np)).toInt = ((w + np : Nat) : Int) := by
      show (Int32.ofNat (w + np)).toInt = _
      exact Int32.toInt_ofNat_of_lt (by omega)
    rw [Int32.toInt_sub, Int32.toInt_add, show (Int32.ofInt (-1)).toInt = -1 by decide, show (Int32.ofInt 1).toInt = 1 by decide]
    rfl
  exact loop np (Nat.le_refl _) _ _ h (TI.rf I) hx _ (by rw [← e3]; rfl)
end M89b
end Ud02f2
