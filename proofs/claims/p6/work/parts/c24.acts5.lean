/-! the class's acts, strongly: plain, common, match, alike (printed by wip/p20/genU1.py) -/
theorem cnt_or : ∀ m : Nat, m < 256 → ∀ x : Nat, x < 8 → (m >>> x % 2 = 0 → cntN (m ||| 2 ^ x) 8 = cntN m 8 + 1) ∧ (m >>> x % 2 = 1 → m ||| 2 ^ x = m) := by decide +kernel
theorem namesN_add (xs : List Nat) (x : Nat) : namesN (xs ++ [x]) = if x < 10 then namesN xs ||| 2 ^ x else namesN xs := by
  unfold namesN
  rw [List.foldl_append]
  rfl
theorem fpN_take {x : Nat} : ∀ {xs : List Nat} {j : Nat}, xs[j]? = some x → x ∉ xs.take j → fpN x xs = j
  | [], j, h, _ => by cases h
  | y :: r, 0, h, _ => by
    cases h
    exact fpN_eq x r
  | y :: r, j + 1, h, hn => by
    rw [List.take_succ_cons] at hn
    have h1 : ¬ y = x := fun z => hn (by rw [z]; exact List.mem_cons_self)
    rw [fpN_ne h1, fpN_take (xs := r) (j := j) h (fun z => hn (List.mem_cons_of_mem _ z))]
/-- the reference's row of names tells what the first places tell -/
theorem plainL_P {xs : List Nat} (hx : ∀ x ∈ xs, okL x) : plainL xs = plP xs := by
  have key : ∀ j, j ≤ xs.length → (plainS (xs.take j)).2.1 = cntN (namesN (xs.take j)) 8 ∧ (plainS (xs.take j)).1.length = 8 ∧ (∀ x, x < 8 → (plainS (xs.take j)).1.getD x 0 = if x ∈ xs.take j then cntN (namesN (xs.take (fpN x xs))) 8 + 1 else 0) ∧ (plainS (xs.take j)).2.2 = (plP xs).take j := by
    intro j
    induction j with
    | zero =>
      intro _
      rw [List.take_zero, List.take_zero]
      refine ⟨rfl, rfl, fun x hx => ?_, rfl⟩
      rw [if_neg (fun z => by simp at z)]
      have : ∀ x : Nat, x < 8 → (List.replicate 8 0).getD x 0 = 0 := by decide
      exact this x hx
    | succ j ih =>
      intro hj
      obtain ⟨i1, i2, i3, i4⟩ := ih (by omega)
      obtain ⟨x, hx1⟩ : ∃ x, xs[j]? = some x := ⟨_, List.getElem?_eq_getElem (by omega)⟩
      have ox := hx x (List.mem_of_getElem? hx1)
      have lt := namesN_lt (xs := xs.take j) (fun y hy => hx y (List.mem_of_mem_take hy))
      have et : xs.take (j + 1) = xs.take j ++ [x] := by rw [List.take_add_one, hx1]; rfl
      have ep : (plP xs).take (j + 1) = (plP xs).take j ++ [if x < 8 then cntN (namesN (xs.take (fpN x xs))) 8 else x] := by
        rw [List.take_add_one]
        unfold plP
        rw [List.getElem?_map, hx1]
        rfl
      rw [plainS_succ hx1, et, namesN_add, ep]
      unfold plainStep
      by_cases h10 : 10 ≤ x
      · rw [if_pos h10, if_neg (show ¬ x < 10 by omega), if_neg (show ¬ x < 8 by omega)]
        refine ⟨i1, i2, fun y hy => ?_, by rw [i4]⟩
        rw [i3 y hy]
        by_cases hm : y ∈ xs.take j
        · rw [if_pos hm, if_pos (List.mem_append_left _ hm)]
        · rw [if_neg hm, if_neg (fun z => (List.mem_append.mp z).elim hm (fun w => by have := List.mem_singleton.mp w; omega))]
      · have hx8 : x < 8 := by rcases ox with q | q <;> omega
        have hb := namesN_mem (y := x) (by omega) (xs.take j)
        unfold bt at hb
        rw [if_neg h10, if_pos (show x < 10 by omega), if_pos hx8]
        obtain ⟨c1, c2⟩ := cnt_or _ lt x hx8
        by_cases hm : x ∈ xs.take j
        · have e := i3 x hx8
          rw [if_pos hm] at e
          rw [if_neg (show ¬ (plainS (xs.take j)).1.getD x 0 = 0 by omega), c2 (hb.mpr hm)]
          refine ⟨i1, i2, fun y hy => ?_, by rw [i4, e]; rfl⟩
          rw [i3 y hy]
          by_cases hm2 : y ∈ xs.take j
          · rw [if_pos hm2, if_pos (List.mem_append_left _ hm2)]
          · rw [if_neg hm2, if_neg (fun z => (List.mem_append.mp z).elim hm2 (fun w => hm2 (by rw [List.mem_singleton.mp w]; exact hm)))]
        · have e := i3 x hx8
          rw [if_neg hm] at e
          have h0 : namesN (xs.take j) >>> x % 2 = 0 := by
            rcases Nat.mod_two_eq_zero_or_one (namesN (xs.take j) >>> x) with z | z
            · exact z
            · exact absurd (hb.mp z) hm
          have ef := fpN_take hx1 hm
          rw [if_pos e, c1 h0]
          refine ⟨by rw [i1], by rw [List.length_set]; exact i2, fun y hy => ?_, by rw [i4, i1, ef]⟩
          by_cases exy : y = x
          · subst exy
            rw [if_pos (List.mem_append_right _ (List.mem_singleton.mpr rfl)), List.getD_eq_getElem?_getD, List.getElem?_set_self (by omega), ef, i1]
            rfl
          · rw [List.getD_eq_getElem?_getD, List.getElem?_set_ne (Ne.symm exy), ← List.getD_eq_getElem?_getD, i3 y hy]
            by_cases hm2 : y ∈ xs.take j
            · rw [if_pos hm2, if_pos (List.mem_append_left _ hm2)]
            · rw [if_neg hm2, if_neg (fun z => (List.mem_append.mp z).elim hm2 (fun w => exy (List.mem_singleton.mp w)))]
  obtain ⟨-, -, -, k4⟩ := key xs.length (Nat.le_refl _)
  rw [List.take_length] at k4
  unfold plainL
  rw [k4]
  exact List.take_of_length_le (by unfold plP; rw [List.length_map]; exact Nat.le_refl _)
theorem TW.pl8 {xs : List Nat} (h : TW xs) : TW (plP xs) ∧ (plP xs).length = xs.length := by
  rw [← plainL_P h.2]
  exact h.plain
theorem matchF_TT {onto : List Nat} (wt : TW onto) (lo : onto.length ≤ 16) : ∀ (xs : List Nat) (b : Nat) (t t' : List (Option (List Nat))), TT t → matchF onto xs b t = some t' → TT t'
  | [], b, t, t', H, h => by
    rw [matchF] at h
    cases h
    exact H
  | x :: r, b, t, t', H, h => by
    rw [matchF] at h
    by_cases c1 : onto.length ≤ b
    · rw [if_pos c1] at h
      cases h
    · rw [if_neg c1] at h
      obtain ⟨-, -, s3, s4, s5⟩ := sub_ok wt lo (b := b) (by omega)
      have H2 : TT (t.set x (some (sub' onto b))) := ⟨by rw [List.length_set]; exact H.1, fun z hz => (List.mem_or_eq_of_mem_set hz).elim (H.2 z) (fun e => by cases e; exact ⟨s4, by omega⟩)⟩
      by_cases c2 : 10 ≤ x
      · rw [if_pos c2] at h
        by_cases c3 : onto[b]? = some x
        · rw [if_pos c3] at h
          exact matchF_TT wt lo r _ _ _ H h
        · rw [if_neg c3] at h
          cases h
      · rw [if_neg c2] at h
        split at h
        · split at h
          · exact matchF_TT wt lo r _ _ _ H2 h
          · cases h
        · exact matchF_TT wt lo r _ _ _ H2 h
theorem matchL_AO {one onto : List Nat} (wt : TW onto) (lo : onto.length ≤ 16) {rows : List (List Nat)} (h : matchL one onto = some rows) : AO rows := by
  unfold matchL at h
  cases e : matchF onto one 0 (List.replicate 8 none) with
  | none => rw [e] at h; cases h
  | some t =>
    rw [e] at h
    cases h
    have H := matchF_TT wt lo one 0 _ t ⟨rfl, fun z hz => by have := List.eq_of_mem_replicate hz; cases this⟩ e
    refine ⟨by unfold restT; rw [List.length_map, List.length_range], fun z hz => ?_⟩
    unfold restT at hz
    rw [List.mem_map] at hz
    obtain ⟨n, hn, rfl⟩ := hz
    have hn8 := List.mem_range.mp hn
    have hnl : n < t.length := by rw [H.1]; exact hn8
    rw [List.getD_eq_getElem?_getD, List.getElem?_eq_getElem hnl]
    show TW ((t[n]).getD [n]) ∧ _
    cases e2 : t[n] with
    | none => exact ⟨TW.name hn8, Nat.le_of_ble_eq_true rfl⟩
    | some z2 => exact H.2 z2 (by rw [← e2]; exact List.getElem_mem hnl)
/-- what names come to when two terms are made alike: by steps, by classes -/
def PEs (one other : List Nat) (E : Nat → List Nat) : Prop := ∃ G S, goF 40 one other none8 0 0 = some G ∧ G.2.2.1 = 0 ∧ runM (one ++ other) G.2.1 sN 0 [(0, one.length)] = some (S, 0, G.2.1) ∧ S1 (one ++ other) S ∧ Ac (one ++ other) S ∧ G.1 = smO (one ++ other) S ∧ ExP (one ++ other) S E
def PEc (one other : List Nat) (E : Nat → List Nat) : Prop := ∃ k S, MnK (one ++ other) one.length k ∧ AcK (one ++ other) k ∧ SKP (one ++ other) k S ∧ ExP (one ++ other) S E
def PEx (x4 : Int32) (one other : List Nat) (E : Nat → List Nat) : Prop := if x4 = 0 then PEs one other E else PEc one other E
theorem SKP.to {X : List Nat} {n1 : Nat} {k k' : Nat → Nat} (M : MnK X n1 k) (M' : MnK X n1 k') {S : SS} (H : SKP X k S) : SKP X k' S := by
  have ii : ∀ {a b : Nat}, a < X.length → b < X.length → (k a = k b ↔ k' a = k' b) := fun {a b} ha hb => M.iff M' ha hb
  constructor
  · intro x q e
    obtain ⟨h1, h2, u, h3, h4, h5, h6⟩ := H.1 x q e
    exact ⟨h1, h2, u, h3, h4, (ii h3 h2).mp h5, h6.elim Or.inl (fun w => Or.inr ⟨w.1, fun z hz ez => w.2 z hz ((ii hz h2).mpr ez)⟩)⟩
  · intro p hp hg es z hz ez
    exact H.2 p hp hg es z hz ((ii hz hp).mpr ez)
theorem PEc.uq {X : List Nat} {n1 : Nat} (hX : BX X) {k : Nat → Nat} (G : GdK X n1 k) (A : AcK X k) {S S' : SS} (H : SKP X k S) (H' : SKP X k S') {E E' : Nat → List Nat} (hE : ExP X S E) (hE' : ExP X S' E') : ∀ x, E x = E' x := by
  have sm := H.same hX G A hE
  have sm' := H'.same hX G A hE'
  obtain ⟨rk, r1, r2⟩ := id A
  have key : ∀ (n a : Nat), rk a < n → a < X.length → exF E (sub' X a) = exF E' (sub' X a) := by
    intro n
    induction n with
    | zero => intro a h; omega
    | succ n ih =>
      intro a hn ha
      by_cases hh : ∃ b, b < X.length ∧ k b = k a ∧ 10 ≤ gl X b
      · obtain ⟨b, hb, hk, hg⟩ := hh
        rw [sm a b ha hb hk.symm, sm' a b ha hb hk.symm, exF_hd hX E hb hg, exF_hd hX E' hb hg]
        congr 1
        refine cK_congr _ _ (fun i _ hi => ?_)
        have hib : i < ga X b := by omega
        have := r2 b hb i hib
        have := r1 b a hb ha hk
        exact ih _ (by omega) (ko_mono hX hb hib).2.2.2.2
      · have nh : ∀ z, z < X.length → k z = k a → gl X z < 10 := fun z hz ez => by
          rcases Nat.lt_or_ge (gl X z) 10 with c | c
          · exact c
          · exact absurd ⟨z, hz, ez, c⟩ hh
        rcases H.nm hX G hE ha (nh a ha rfl) with ⟨q1, a1, a2, a3, a4, a5⟩ | ⟨q1, a1, a2, a3, -⟩
        · rcases H'.nm hX G hE' ha (nh a ha rfl) with ⟨q2, b1, b2, b3, b4, b5⟩ | ⟨q2, b1, b2, b3, -⟩
          · have h1 := (a4 q2 b1 b2).1
            have h2 := (b4 q1 a1 a2).1
            rw [a5, b5, show gl X q1 = gl X q2 by omega]
          · exact absurd ⟨q2, b1, b2, b3⟩ hh
        · exact absurd ⟨q1, a1, a2, a3⟩ hh
  intro x
  have nE : ∀ {S : SS} {E : Nat → List Nat}, ExP X S E → S x = none → E x = [x] := fun {S E} h e => by
    have := h x
    rw [e] at this
    exact this
  by_cases hm : ∃ a, a < X.length ∧ gl X a = x
  · obtain ⟨a, ha, rfl⟩ := hm
    rcases Nat.lt_or_ge (gl X a) 10 with c | c
    · have := key _ a (Nat.lt_succ_self _) ha
      rw [exF_nm hX E ha c, exF_nm hX E' ha c] at this
      exact this
    · rw [nE hE (by
        cases es : S (gl X a) with
        | none => rfl
        | some q => have := (H.1 _ q es).1; omega), nE hE' (by
        cases es : S' (gl X a) with
        | none => rfl
        | some q => have := (H'.1 _ q es).1; omega)]
  · rw [nE hE (by
      cases es : S x with
      | none => rfl
      | some q =>
        obtain ⟨-, -, u, h3, h4, -⟩ := H.1 _ q es
        exact absurd ⟨u, h3, h4⟩ hm), nE hE' (by
      cases es : S' x with
      | none => rfl
      | some q =>
        obtain ⟨-, -, u, h3, h4, -⟩ := H'.1 _ q es
        exact absurd ⟨u, h3, h4⟩ hm)]
theorem PEx.uq {x4 : Int32} {one other : List Nat} (t1 : TW one ∧ one.length ≤ 16) (t2 : TW other ∧ other.length ≤ 16) {E E' : Nat → List Nat} (h : PEx x4 one other E) (h' : PEx x4 one other E') : ∀ x, E x = E' x := by
  obtain ⟨bY, -, -⟩ := BY_of t1 t2
  unfold PEx at h h'
  split at h
  · rename_i c
    rw [if_pos c] at h'
    obtain ⟨G, S, a1, a2, a3, a4, a5, a6, a7⟩ := h
    obtain ⟨G', S', b1, b2, b3, b4, b5, b6, b7⟩ := h'
    rw [a1] at b1
    cases b1
    rw [a3] at b3
    cases b3
    exact ExP.uq bY.1 a4 a5 a7 b7
  · rename_i c
    rw [if_neg c] at h'
    obtain ⟨k, S, a1, a2, a3, a4⟩ := h
    obtain ⟨k', S', b1, b2, b3, b4⟩ := h'
    exact PEc.uq bY.1 a1.1 a2 a3 (SKP.to b1 a1 b3) a4 b4
theorem PEx.tw {x4 : Int32} {one other : List Nat} (t1 : TW one ∧ one.length ≤ 16) (t2 : TW other ∧ other.length ≤ 16) {E : Nat → List Nat} (h : PEx x4 one other E) : ∀ x, x < 8 → TW (E x) := by
  obtain ⟨bY, -, -⟩ := BY_of t1 t2
  unfold PEx at h
  split at h
  · obtain ⟨G, S, a1, a2, a3, a4, a5, a6, a7⟩ := h
    exact ExP.tw bY.1 a4 a5 a7
  · obtain ⟨k, S, a1, a2, a3, a4⟩ := h
    exact ExP.tw bY.1 a3.s1 (a3.ac bY.1 a1.1 a2) a4
noncomputable def rowsA (x4 : Int32) (one other : List Nat) : Option (List (List Nat)) := by
  classical exact if h : ∃ E, PEx x4 one other E then some ((List.range 8).map h.choose) else none
theorem rowsA_no {x4 : Int32} {one other : List Nat} (h : ¬ ∃ E, PEx x4 one other E) : rowsA x4 one other = none := dif_neg h
theorem rowsA_yes {x4 : Int32} {one other : List Nat} (t1 : TW one ∧ one.length ≤ 16) (t2 : TW other ∧ other.length ≤ 16) {E : Nat → List Nat} (h : PEx x4 one other E) : rowsA x4 one other = some ((List.range 8).map E) := by
  unfold rowsA
  rw [dif_pos ⟨E, h⟩]
  congr 2
  funext x
  exact PEx.uq t1 t2 (Exists.choose_spec (p := fun E => PEx x4 one other E) ⟨E, h⟩) h x
/-- eight terms as they come from calls and steps -/
def MDR (F : Nat → TC) (f : Nat) (made : List (List Nat)) : Prop := made.length = 8 ∧ ∀ n, n < 8 → ∃ zs, made[n]? = some zs ∧ RP16 (F (f + n)) zs ∧ TW zs
theorem MDR.tl {F : Nat → TC} {f : Nat} {made : List (List Nat)} (H : MDR F f made) : tlA F f 8 = made.any (fun z => decide (16 < z.length)) := by
  cases e : made.any (fun z => decide (16 < z.length)) with
  | true =>
    obtain ⟨z, hz, h16⟩ := List.any_eq_true.mp e
    obtain ⟨n, hn, rfl⟩ := List.mem_iff_getElem.mp hz
    have hn8 : n < 8 := by rw [← H.1]; exact hn
    obtain ⟨zs, z1, z2, -⟩ := H.2 n hn8
    rw [List.getElem?_eq_getElem hn] at z1
    cases z1
    exact tlA_le F f (k := n) (by rw [z2.flag]; exact h16) 8 hn8
  | false =>
    refine tlA_f F f 8 (fun n hn => ?_)
    obtain ⟨zs, z1, z2, -⟩ := H.2 n hn
    rw [z2.flag]
    cases h16 : decide (16 < zs.length) with
    | false => rfl
    | true =>
      have : made.any (fun z => decide (16 < z.length)) = true := List.any_eq_true.mpr ⟨zs, List.mem_of_getElem? z1, h16⟩
      rw [this] at e
      cases e
theorem MDR.short {F : Nat → TC} {f : Nat} {made : List (List Nat)} (H : MDR F f made) (e : made.any (fun z => decide (16 < z.length)) = false) : RWX F f made := by
  refine ⟨H.1, fun n hn => ?_⟩
  obtain ⟨zs, z1, z2, z3⟩ := H.2 n hn
  have h16 : zs.length ≤ 16 := by
    rcases Nat.lt_or_ge 16 zs.length with q | q
    · have : made.any (fun z => decide (16 < z.length)) = true := List.any_eq_true.mpr ⟨zs, List.mem_of_getElem? z1, decide_eq_true q⟩
      rw [this] at e
      cases e
    · exact q
  rcases z2 with ⟨-, z2⟩ | ⟨z2, -⟩
  · exact ⟨zs, z1, z2, z3, h16⟩
  · omega
theorem FS.cg {F F' : Nat → TC} {st : ST} (H : FS F st) (e : ∀ i, i < 30 → F' i = F i) : FS F' st := by
  refine ⟨fun i hi => ?_, fun k hk => ?_⟩
  · obtain ⟨ns, h1, h2⟩ := H.1 i hi
    exact ⟨ns, h1, by rw [e i (by omega)]; exact h2⟩
  · obtain ⟨rows, h1, h2, h3⟩ := H.2 k hk
    exact ⟨rows, h1, h2, fun n hn => by
      obtain ⟨ns, g1, g2, g3⟩ := h3 n hn
      exact ⟨ns, g1, by rw [e _ (by omega)]; exact g2, g3⟩⟩
def aPlain (x1 : Int32) (st : ST) : RS := if okI 6 x1 then slS st (st.1.set (xI x1) (plP (st.1.getD (xI x1) []))) (bcF (nI (namesN (plP (st.1.getD (xI x1) []))))) else ((1, 0), st)
def aCommon (x1 x2 x3 : Int32) (st : ST) : RS := if okI 6 x1 then (if okI 6 x2 then (if okI 6 x3 then
  (if (comL (st.1.getD (xI x1) []) (st.1.getD (xI x2) [])).1.length ≤ 8 then giveS (xI x3) (comL (st.1.getD (xI x1) []) (st.1.getD (xI x2) [])).2 (nI (comL (st.1.getD (xI x1) []) (st.1.getD (xI x2) [])).2.length) st else noS st) else ((1, 0), st)) else ((1, 0), st)) else ((1, 0), st)
def toldS (k : Nat) (rows : Option (List (List Nat))) (st : ST) : RS := match rows with
  | none => slS st st.1 (Int32.ofInt (-1))
  | some rows => becA k rows st
def aMatch (x1 x2 x3 : Int32) (st : ST) : RS := if okI 6 x1 then (if okI 6 x2 then (if okI 3 x3 then
  toldS (xI x3) (matchL (st.1.getD (xI x1) []) (st.1.getD (xI x2) [])) st else ((1, 0), st)) else ((1, 0), st)) else ((1, 0), st)
noncomputable def aAlike (x1 x2 x3 x4 : Int32) (st : ST) : RS := if okI 6 x1 then (if okI 6 x2 then (if okI 3 x3 then (if x4 = 0 ∨ x4 = 1 then
  toldS (xI x3) (rowsA x4 (st.1.getD (xI x1) []) (st.1.getD (xI x2) [])) st else ((2, 0), st)) else ((1, 0), st)) else ((1, 0), st)) else ((1, 0), st)
section CSh
variable {B Q P : Nat → Nat} {ox : Nat} {kn : Int32} {d r : Int32} {h h' : AH} {F F' : Nat → TC}
/-- the class's cells after a shape was drawn -/
theorem CLS.sh (Y : LYO B Q) (C : CLS B Q P ox kn h F d r) (S : TS B Q h' F') (W : PRW h' (P 15) (Q 68) (Q 69)) (f : FrU B Q [P 15, Q 68, Q 69] h h') : CLS B Q P ox kn h' F' d r ∧ FrC h h' := by
  obtain ⟨c1, c2, c3, c4⟩ := id C
  have row0 : ∀ j, 60 ≤ j → j < 70 → ∃ vs, h (Q j) = some (107, vs) := fun j h1 h2 => by
    obtain ⟨xs, x1, -⟩ := c4.2.2.2.2 j h1 h2
    exact ⟨_, x1⟩
  obtain ⟨w15, -, e15⟩ := c4.2.2.2.1 2 (by decide)
  have hL : ∀ a ∈ [P 15, Q 68, Q 69], ∃ k vs, h a = some (k, vs) ∧ okK k := fun a ha => by
    simp only [List.mem_cons, List.not_mem_nil, or_false] at ha
    rcases ha with rfl | rfl | rfl
    · exact ⟨_, _, e15, Or.inl rfl⟩
    · obtain ⟨vs, e⟩ := row0 68 (by decide) (by decide)
      exact ⟨_, _, e, Or.inr (Or.inr rfl)⟩
    · obtain ⟨vs, e⟩ := row0 69 (by decide) (by decide)
      exact ⟨_, _, e, Or.inr (Or.inr rfl)⟩
  have nl : ∀ {a k : Nat} {vs : List Value}, h a = some (k, vs) → k ≠ 107 → a ≠ P 15 → a ∉ [P 15, Q 68, Q 69] := fun {a k vs} e h7 hne z => by
    simp only [List.mem_cons, List.not_mem_nil, or_false] at z
    rcases z with z | z | z
    · exact hne z
    · obtain ⟨ws, e2⟩ := row0 68 (by decide) (by decide)
      exact k_ne e e2 h7 z
    · obtain ⟨ws, e2⟩ := row0 69 (by decide) (by decide)
      exact k_ne e e2 h7 z
  have nq : ∀ j, 60 ≤ j → j < 70 → j ≠ 68 → j ≠ 69 → Q j ∉ [P 15, Q 68, Q 69] := fun j h1 h2 n1 n2 z => by
    obtain ⟨vs, e⟩ := row0 j h1 h2
    simp only [List.mem_cons, List.not_mem_nil, or_false] at z
    rcases z with z | z | z
    · exact k_ne e e15 (by decide) z
    · exact n1 (Y.2 _ _ h2 (by decide) z)
    · exact n2 (Y.2 _ _ h2 (by decide) z)
  refine ⟨⟨S, f.keep c1 hL c2 (by decide) (by unfold okK; decide), c3.keepU f c1 hL, ?_, f.keep c1 hL c4.2.1 (by decide) (by unfold okK; decide), f.keep c1 hL c4.2.2.1 (by decide) (by unfold okK; decide), fun k hk => ?_, fun j h1 h2 => ?_⟩, f.frC c1 hL⟩
  · obtain ⟨⟨t, e, r1⟩, -⟩ := id c4
    refine ⟨t, e, ?_⟩
    rw [f _ (fun i hi => ?_) (nl r1 (by decide) (k_ne r1 e15 (by decide)))]
    · exact r1
    · obtain ⟨-, b1, xs, b2, -⟩ := c1 i hi
      exact ⟨k_ne r1 b1 (by decide), k_ne r1 b2 (by decide)⟩
  · by_cases e : k = 2
    · subst e
      exact W.1
    · obtain ⟨w, -, w2⟩ := c4.2.2.2.1 k hk
      exact c4.prU c1 f hk (nl w2 (by decide) (c4.pne Y hk (by decide) e))
  · by_cases e4 : j = 68
    · subst e4
      obtain ⟨-, ⟨xs, x1, x2⟩, -⟩ := W
      exact ⟨xs, x1, x2⟩
    · by_cases e5 : j = 69
      · subst e5
        obtain ⟨-, -, ys, y1, y2⟩ := W
        exact ⟨ys, y1, y2⟩
      · exact c4.rowU Y c1 f h1 h2 (nq j h1 h2 e4 e5)
end CSh
section S24
variable {la : Launch} {D : va_G} {cA : Nat → ClassId} {B0 pa : Nat} {B Q P : Nat → Nat} {ox : Nat} {kn : Int32} {F : Nat → TC}
set_option maxHeartbeats 16000000 in
theorem s6_putSpareAnswerIntoR (h : AH) (Y : LYO B Q) {st : ST} (C : CLS B Q P ox kn h F st.2.2.1 st.2.2.2) (H : FS F st) (O : StO st) {k : Nat} (hk : k < 3) {made : List (List Nat)} (hm : MDR F 34 made) : CT la D cA B0 pa yX6_putSpareAnswerInto cX6_putSpareAnswerInto 2 (some .int) (rmD 5 0 0) [.ref ox, .ref (P (7 + k))] h (AP B Q P ox kn (becA k made st) h) := by
  refine CT_of (by decide +kernel) (Nat.le_of_ble_eq_true rfl) ?_
  intro p e s m args below meth c X E hr hlk hnm
  have dk : ∀ {pc : Nat} {q : Instr × Nat}, lkd DX6_putSpareAnswerInto pc = some q → decode cX6_putSpareAnswerInto pc = .ok q := lkd_ok DX6_putSpareAnswerInto_ok
  refine fst1_ok X (dk rfl) rfl ?_
  refine getf_ok X flX6_38 (dk rfl) C.2.1 rfl ?_
  have oa := C.2.2.1.2.2.2.1
  have ok := C.2.2.1.2.2.1 k hk
  refine callVR_ok (ci := 2) (T := TX0) (N := 1) (av := []) (r := []) X E (s0_isTooLong h C.1 oa) lkX0_isTooLong mlX6_230 lmX0_isTooLong lpX0_isTooLong ⟨Nat.le_of_ble_eq_true rfl, Nat.le_of_ble_eq_true rfl⟩ ⟨Nat.le_of_ble_eq_true rfl, Nat.le_of_ble_eq_true rfl⟩ rfl ⟨_, oa.2.choose_spec.1⟩ (Nat.le_of_ble_eq_true rfl) (dk rfl) ?_
  rintro _ rfl
  rw [hm.tl]
  cases e : made.any (fun z => decide (16 < z.length)) with
  | true =>
    refine br_ok X (dk rfl) rfl (show ((7 : Nat) : Int) + 8 = ((15 : Nat) : Int) from rfl) (fun q => absurd q bI_t) (fun _ => ?_)
    refine fst1_ok X (dk rfl) rfl ?_
    refine callV_ok (ci := 8) (T := TX6) (N := 14) (av := []) (r := []) X E (s6_refuse h C) lkX6_refuse mlX6_119 lmX6_refuse lpX6_refuse ⟨Nat.le_of_ble_eq_true rfl, Nat.le_of_ble_eq_true rfl⟩ ⟨Nat.le_of_ble_eq_true rfl, Nat.le_of_ble_eq_true rfl⟩ rfl C.2.1 (Nat.le_of_ble_eq_true rfl) (dk rfl) ?_
    rintro _ h1 ⟨rfl, C1, f1⟩
    have eb : becA k made st = noS st := if_pos e
    rw [eb]
    exact reti_ok X hr hlk rfl (dk rfl) (⟨rfl, rfl, ⟨F, C1, H.cnt _ _, O.cnt _ _⟩, f1⟩) (Nat.le_of_ble_eq_true rfl) (Nat.le_of_ble_eq_true rfl)
  | false =>
    refine br_ok X (dk rfl) rfl (show ((7 : Nat) : Int) + 8 = ((15 : Nat) : Int) from rfl) (fun _ => ?_) (fun q => absurd bI_f' q)
    have R := hm.short e
    iterate 2 refine fst1_ok X (dk rfl) rfl ?_
    refine getf_ok X flX6_38 (dk rfl) C.2.1 rfl ?_
    refine callVT_ok (ci := 2) (T := TX0) (N := 1) (av := [.ref (P 2)]) (r := []) X E (s0_becomeAs h Y C.1 ok oa (by omega) (fun n hn => by obtain ⟨ns, -, g2, -, g4⟩ := R.2 n hn; rw [g2, List.length_map]; exact g4)) lkX0_becomeAs mlX6_172 lmX0_becomeAs lpX0_becomeAs ⟨Nat.le_of_ble_eq_true rfl, Nat.le_of_ble_eq_true rfl⟩ ⟨Nat.le_of_ble_eq_true rfl, Nat.le_of_ble_eq_true rfl⟩ rfl ok.2.choose_spec.1 (Nat.le_of_ble_eq_true rfl) (dk rfl) (fun h1 S1 f1 => ?_)
    have C1 := C.tm Y S1 f1
    have H1 := H.setA hk O.2.2.1 (rows := made) hm.1 (fun n hn => R.2 n hn) (st.2.2.1 + Int32.ofInt 1) st.2.2.2
    have R1 : RWX (upK F (6 + 8 * k) (fun n => F (34 + n)) 8) (6 + 8 * k) made := H1.gotA hk O.2.2.1
    have ok1 := ok.keep C.1 f1
    iterate 2 refine fst1_ok X (dk rfl) rfl ?_
    refine callVR_ok (ci := 2) (T := TX0) (N := 1) (av := []) (r := [.ref ox]) X E (s0_movedCount h1 S1 ok1 R1) lkX0_movedCount mlX6_163 lmX0_movedCount lpX0_movedCount ⟨Nat.le_of_ble_eq_true rfl, Nat.le_of_ble_eq_true rfl⟩ ⟨Nat.le_of_ble_eq_true rfl, Nat.le_of_ble_eq_true rfl⟩ rfl ⟨_, ok1.2.choose_spec.1⟩ (Nat.le_of_ble_eq_true rfl) (dk rfl) ?_
    rintro _ rfl
    refine callV_ok (ci := 8) (T := TX6) (N := 14) (av := [.int (bcF (nI (movedN made 8)))]) (r := []) X E (s6_did h1 C1 _) lkX6_did mlX6_80 lmX6_did lpX6_did ⟨Nat.le_of_ble_eq_true rfl, Nat.le_of_ble_eq_true rfl⟩ ⟨Nat.le_of_ble_eq_true rfl, Nat.le_of_ble_eq_true rfl⟩ rfl C1.2.1 (Nat.le_of_ble_eq_true rfl) (dk rfl) ?_
    rintro _ h2 ⟨rfl, C2, f2⟩
    have eb : becA k made st = becS k made st := if_neg (by rw [e]; decide)
    rw [eb]
    exact reti_ok X hr hlk rfl (dk rfl) (⟨rfl, rfl, ⟨_, C2, H1, O.setA R.ao k _ _⟩, (f1.frC C.1).trans f2⟩) (Nat.le_of_ble_eq_true rfl) (Nat.le_of_ble_eq_true rfl)
set_option maxHeartbeats 32000000 in
theorem s6_plain (h : AH) (hl : la.stackTraces = false) (Y : LYO B Q) {st : ST} (C0 : StC B Q P ox kn h st) (x1 : Int32) : CTX la D cA B0 pa yX6_plain cX6_plain 3 (some .int) (rmD 7 1 6) [.ref ox, .int x1] h (AP B Q P ox kn (aPlain x1 st) h) (AX (aPlain x1 st) st h) := by
  refine CTX_of (by decide +kernel) (Nat.le_of_ble_eq_true rfl) ?_
  intro p e s m args below meth c X E hr hlk hnm ht
  have dk : ∀ {pc : Nat} {q : Instr × Nat}, lkd DX6_plain pc = some q → decode cX6_plain pc = .ok q := lkd_ok DX6_plain_ok
  obtain ⟨F, C, H, O⟩ := id C0
  iterate 2 refine fst1_ok X (dk rfl) rfl ?_
  refine callVX_ok (ci := 8) (T := TX6) (N := 14) (av := [.int x1]) (r := []) X E ht hlk (s6_termOf h hl C x1) (fun E1 h1 z => AX.one (by unfold aPlain; rw [if_neg (by rw [okI_f z.2.1]; decide)]) ⟨z.1, z.2.2⟩) lkX6_termOf mlX6_69 lmX6_termOf lpX6_termOf ⟨Nat.le_of_ble_eq_true rfl, Nat.le_of_ble_eq_true rfl⟩ ⟨Nat.le_of_ble_eq_true rfl, Nat.le_of_ble_eq_true rfl⟩ rfl C.2.1 (Nat.le_of_ble_eq_true rfl) (dk rfl) ?_
  rintro _ h1 ⟨⟨j, hj, rfl, rfl⟩, eh⟩
  obtain rfl := eh.symm
  obtain ⟨nj, sj, ej, tj, wj, lj⟩ := H.slot O hj
  iterate 2 refine fst1_ok X (dk rfl) rfl ?_
  refine getf_ok X flX6_24 (dk rfl) C.2.1 rfl ?_
  refine fst1_ok X (dk rfl) rfl ?_
  obtain ⟨wp, lp⟩ := wj.pl8
  have hrm : rmI j = 16 := if_pos (by omega)
  refine callVT_ok (ci := 7) (T := TX5) (N := 3) (av := [.ref (B j)]) (r := []) X E (s5_becomePlainOf _ Y C.1 (i := 30) (by omega) (j := j) (by omega) (by omega) tj (by rw [show rmI 30 = 16 from rfl]; exact lj)) lkX5_becomePlainOf mlX6_148 lmX5_becomePlainOf lpX5_becomePlainOf ⟨Nat.le_of_ble_eq_true rfl, Nat.le_of_ble_eq_true rfl⟩ ⟨Nat.le_of_ble_eq_true rfl, Nat.le_of_ble_eq_true rfl⟩ rfl (C.1 30 (by omega)).2.1 (Nat.le_of_ble_eq_true rfl) (dk rfl) (fun h2 S2 f2 => ?_)
  have C2 := C.tm Y S2 f2
  iterate 2 refine fst1_ok X (dk rfl) rfl ?_
  refine getf_ok X flX6_24 (dk rfl) C2.2.1 rfl ?_
  refine callVT_ok (ci := 7) (T := TX5) (N := 3) (av := [.ref (B 30)]) (r := []) X E (s5_becomeAs h2 Y S2 (i := j) (by omega) (j := 30) (by omega) (by rw [upF_self, hrm]; show ((plP nj).map nI).length ≤ 16; rw [List.length_map, lp]; exact lj)) lkX5_becomeAs mlX6_108 lmX5_becomeAs lpX5_becomeAs ⟨Nat.le_of_ble_eq_true rfl, Nat.le_of_ble_eq_true rfl⟩ ⟨Nat.le_of_ble_eq_true rfl, Nat.le_of_ble_eq_true rfl⟩ rfl (S2 j (by omega)).2.1 (Nat.le_of_ble_eq_true rfl) (dk rfl) (fun h3 S3 f3 => ?_)
  rw [upF_self] at S3
  have C3 := C2.tm Y S3 f3
  have t3 : TN (upF (upF F 30 ((plP nj).map nI, false)) j ((plP nj).map nI, false) j) (plP nj) := by rw [upF_self]; exact ⟨rfl, wp.2⟩
  iterate 2 refine fst1_ok X (dk rfl) rfl ?_
  refine callVR_ok (ci := 7) (T := TX5) (N := 3) (av := []) (r := [.ref ox]) X E (s5_allNames h3 S3 (i := j) (by omega) t3) lkX5_allNames mlX6_140 lmX5_allNames lpX5_allNames ⟨Nat.le_of_ble_eq_true rfl, Nat.le_of_ble_eq_true rfl⟩ ⟨Nat.le_of_ble_eq_true rfl, Nat.le_of_ble_eq_true rfl⟩ rfl ⟨_, (S3 j (by omega)).2.1⟩ (Nat.le_of_ble_eq_true rfl) (dk rfl) ?_
  rintro _ rfl
  refine callS_ok (av := [vI (namesN (plP nj))]) (r := [.ref ox]) X E (c_bitCount h3 _) lkJ6_bitCount_0f7a4 mlX6_143 lsJ6_bitCount_0f7a4 ⟨Nat.le_of_ble_eq_true rfl, Nat.le_of_ble_eq_true rfl⟩ ⟨Nat.le_of_ble_eq_true rfl, Nat.le_of_ble_eq_true rfl⟩ (Nat.le_of_ble_eq_true rfl) (dk rfl) ?_
  rintro v h4 ⟨rfl, eh⟩
  obtain rfl := eh.symm
  refine callV_ok (ci := 8) (T := TX6) (N := 14) (av := [.int (bcF (nI (namesN (plP nj))))]) (r := []) X E (s6_did _ C3 _) lkX6_did mlX6_80 lmX6_did lpX6_did ⟨Nat.le_of_ble_eq_true rfl, Nat.le_of_ble_eq_true rfl⟩ ⟨Nat.le_of_ble_eq_true rfl, Nat.le_of_ble_eq_true rfl⟩ rfl C3.2.1 (Nat.le_of_ble_eq_true rfl) (dk rfl) ?_
  rintro _ h5 ⟨rfl, C5, f5⟩
  have e : aPlain (nI j) st = slS st (st.1.set j (plP nj)) (bcF (nI (namesN (plP nj)))) := by
    unfold aPlain
    rw [if_pos (okI_t hj (by decide)), xI_n (by omega), getD_of sj]
  rw [e]
  refine WRX.ret ?_
  exact reti_ok X hr hlk rfl (dk rfl) (⟨rfl, rfl, ⟨_, C5, (upF_fs H (i := 30) (by omega) _).set hj O.1 _ _ _, O.set ⟨wp, by rw [lp]; exact lj⟩ j _ _⟩, ((f2.frC C.1).trans (f3.frC S2)).trans f5⟩) (Nat.le_of_ble_eq_true rfl) (Nat.le_of_ble_eq_true rfl)
set_option maxHeartbeats 32000000 in
theorem s6_common (h : AH) (hl : la.stackTraces = false) (Y : LYO B Q) {st : ST} (C0 : StC B Q P ox kn h st) (x1 x2 x3 : Int32) : CTX la D cA B0 pa yX6_common cX6_common 7 (some .int) (rmD 7 3 18) [.ref ox, .int x1, .int x2, .int x3] h (AP B Q P ox kn (aCommon x1 x2 x3 st) h) (AX (aCommon x1 x2 x3 st) st h) := by
  refine CTX_of (by decide +kernel) (Nat.le_of_ble_eq_true rfl) ?_
  intro p e s m args below meth c X E hr hlk hnm ht
  have dk : ∀ {pc : Nat} {q : Instr × Nat}, lkd DX6_common pc = some q → decode cX6_common pc = .ok q := lkd_ok DX6_common_ok
  obtain ⟨F, C, H, O⟩ := id C0
  iterate 2 refine fst1_ok X (dk rfl) rfl ?_
  refine callVX_ok (ci := 8) (T := TX6) (N := 14) (av := [.int x1]) (r := []) X E ht hlk (s6_termOf h hl C x1) (fun E1 h1 z => AX.one (by unfold aCommon; rw [if_neg (by rw [okI_f z.2.1]; decide)]) ⟨z.1, z.2.2⟩) lkX6_termOf mlX6_69 lmX6_termOf lpX6_termOf ⟨Nat.le_of_ble_eq_true rfl, Nat.le_of_ble_eq_true rfl⟩ ⟨Nat.le_of_ble_eq_true rfl, Nat.le_of_ble_eq_true rfl⟩ rfl C.2.1 (Nat.le_of_ble_eq_true rfl) (dk rfl) ?_
  rintro _ h1 ⟨⟨j, hj, rfl, rfl⟩, eh⟩
  obtain rfl := eh.symm
  iterate 3 refine fst1_ok X (dk rfl) rfl ?_
  refine callVX_ok (ci := 8) (T := TX6) (N := 14) (av := [.int x2]) (r := []) X E ht hlk (s6_termOf _ hl C x2) (fun E1 h1 z => AX.one (by unfold aCommon; rw [if_pos (okI_t hj (by decide))]; rw [if_neg (by rw [okI_f z.2.1]; decide)]) ⟨z.1, z.2.2⟩) lkX6_termOf mlX6_69 lmX6_termOf lpX6_termOf ⟨Nat.le_of_ble_eq_true rfl, Nat.le_of_ble_eq_true rfl⟩ ⟨Nat.le_of_ble_eq_true rfl, Nat.le_of_ble_eq_true rfl⟩ rfl C.2.1 (Nat.le_of_ble_eq_true rfl) (dk rfl) ?_
  rintro _ h1 ⟨⟨i, hi, rfl, rfl⟩, eh⟩
  obtain rfl := eh.symm
  iterate 3 refine fst1_ok X (dk rfl) rfl ?_
  refine callVX_ok (ci := 8) (T := TX6) (N := 14) (av := [.int x3]) (r := []) X E ht hlk (s6_termOf _ hl C x3) (fun E1 h1 z => AX.one (by unfold aCommon; rw [if_pos (okI_t hj (by decide)), if_pos (okI_t hi (by decide))]; rw [if_neg (by rw [okI_f z.2.1]; decide)]) ⟨z.1, z.2.2⟩) lkX6_termOf mlX6_69 lmX6_termOf lpX6_termOf ⟨Nat.le_of_ble_eq_true rfl, Nat.le_of_ble_eq_true rfl⟩ ⟨Nat.le_of_ble_eq_true rfl, Nat.le_of_ble_eq_true rfl⟩ rfl C.2.1 (Nat.le_of_ble_eq_true rfl) (dk rfl) ?_
  rintro _ h1 ⟨⟨k, hk, rfl, rfl⟩, eh⟩
  obtain rfl := eh.symm
  obtain ⟨nj, sj, ej, tj, wj, lj⟩ := H.slot O hj
  obtain ⟨ni, si, ei, ti, wi, li⟩ := H.slot O hi
  have hpr := C.2.2.2.prw (k := 2) (by decide)
  have hsh := C.2.2.2.2.2.1
  have ecm : aCommon (nI j) (nI i) (nI k) st = if (comL nj ni).1.length ≤ 8 then giveS k (comL nj ni).2 (nI (comL nj ni).2.length) st else noS st := by
    unfold aCommon
    rw [if_pos (okI_t hj (by decide)), if_pos (okI_t hi (by decide)), if_pos (okI_t hk (by decide)), xI_n (by omega), xI_n (by omega), xI_n (by omega), getD_of sj, getD_of si]
  iterate 2 refine fst1_ok X (dk rfl) rfl ?_
  refine getf_ok X flX6_62 (dk rfl) C.2.1 rfl ?_
  iterate 3 refine fst1_ok X (dk rfl) rfl ?_
  refine getf_ok X flX6_24 (dk rfl) C.2.1 rfl ?_
  refine callV_ok (ci := 5) (T := TX3) (N := 1) (av := [.ref (B j), .ref (B i), .ref (B 30)]) (r := []) X E (s3_drawInto _ Y hpr (hAq Y (by decide) (by decide) (by decide) (by decide)) C.1 hsh (Yne Y (by decide) (by decide) (by decide)) (i1 := j) (by omega) tj wj lj (i2 := i) (by omega) ti wi li (i3 := 30) (by omega) (by omega) (by omega)) lkX3_drawInto mlX6_159 lmX3_drawInto lpX3_drawInto ⟨Nat.le_of_ble_eq_true rfl, Nat.le_of_ble_eq_true rfl⟩ ⟨Nat.le_of_ble_eq_true rfl, Nat.le_of_ble_eq_true rfl⟩ rfl hsh (Nat.le_of_ble_eq_true rfl) (dk rfl) ?_
  rintro _ h2 ⟨rfl, W2, S2, f2⟩
  obtain ⟨C2, g2⟩ := C.sh Y S2 W2 f2
  by_cases h8 : (comL nj ni).1.length ≤ 8
  · obtain ⟨wc, lc⟩ := comL_ok wj wi lj li h8
    rw [decide_eq_true h8]
    refine br_ok X (dk rfl) rfl (show ((36 : Nat) : Int) + 12 = ((48 : Nat) : Int) from rfl) (fun q => absurd q bI_t) (fun _ => ?_)
    iterate 2 refine fst1_ok X (dk rfl) rfl ?_
    refine callV_ok (ci := 8) (T := TX6) (N := 14) (av := [.ref (B k)]) (r := []) X E (s6_putSpareInto h2 Y C2 (j := k) hk (zs := (comL nj ni).2) (by rw [upF_self, addR_short lc])) lkX6_putSpareInto mlX6_104 lmX6_putSpareInto lpX6_putSpareInto ⟨Nat.le_of_ble_eq_true rfl, Nat.le_of_ble_eq_true rfl⟩ ⟨Nat.le_of_ble_eq_true rfl, Nat.le_of_ble_eq_true rfl⟩ rfl C2.2.1 (Nat.le_of_ble_eq_true rfl) (dk rfl) ?_
    rintro v h3 G
    rw [if_pos h8] at ecm
    have Gf := gvP.ap G g2 (upF_fs H (i := 30) (by omega) _) O hk wc
    rw [← ecm] at Gf
    obtain ⟨g4, rfl, g5⟩ := Gf
    refine br_ok X (dk rfl) rfl (show ((45 : Nat) : Int) + 7 = ((52 : Nat) : Int) from rfl) (fun _ => ?_) (fun q => absurd trivial q)
    refine WRX.ret ?_
    exact reti_ok X hr hlk rfl (dk rfl) (⟨g4, rfl, g5⟩) (Nat.le_of_ble_eq_true rfl) (Nat.le_of_ble_eq_true rfl)
  · rw [decide_eq_false h8]
    refine br_ok X (dk rfl) rfl (show ((36 : Nat) : Int) + 12 = ((48 : Nat) : Int) from rfl) (fun _ => ?_) (fun q => absurd bI_f' q)
    refine fst1_ok X (dk rfl) rfl ?_
    refine callV_ok (ci := 8) (T := TX6) (N := 14) (av := []) (r := []) X E (s6_refuse h2 C2) lkX6_refuse mlX6_119 lmX6_refuse lpX6_refuse ⟨Nat.le_of_ble_eq_true rfl, Nat.le_of_ble_eq_true rfl⟩ ⟨Nat.le_of_ble_eq_true rfl, Nat.le_of_ble_eq_true rfl⟩ rfl C2.2.1 (Nat.le_of_ble_eq_true rfl) (dk rfl) ?_
    rintro _ h3 ⟨rfl, C3, f3⟩
    rw [if_neg h8] at ecm
    rw [ecm]
    refine WRX.ret ?_
    exact reti_ok X hr hlk rfl (dk rfl) (⟨rfl, rfl, ⟨_, C3, (upF_fs H (i := 30) (by omega) _).cnt _ _, O.cnt _ _⟩, g2.trans f3⟩) (Nat.le_of_ble_eq_true rfl) (Nat.le_of_ble_eq_true rfl)
set_option maxHeartbeats 32000000 in
theorem s6_match (h : AH) (hl : la.stackTraces = false) (Y : LYO B Q) {st : ST} (C0 : StC B Q P ox kn h st) (x1 x2 x3 : Int32) : CTX la D cA B0 pa yX6_match cX6_match 7 (some .int) (rmD 7 3 18) [.ref ox, .int x1, .int x2, .int x3] h (AP B Q P ox kn (aMatch x1 x2 x3 st) h) (AX (aMatch x1 x2 x3 st) st h) := by
  refine CTX_of (by decide +kernel) (Nat.le_of_ble_eq_true rfl) ?_
  intro p e s m args below meth c X E hr hlk hnm ht
  have dk : ∀ {pc : Nat} {q : Instr × Nat}, lkd DX6_match pc = some q → decode cX6_match pc = .ok q := lkd_ok DX6_match_ok
  obtain ⟨F, C, H, O⟩ := id C0
  iterate 2 refine fst1_ok X (dk rfl) rfl ?_
  refine callVX_ok (ci := 8) (T := TX6) (N := 14) (av := [.int x1]) (r := []) X E ht hlk (s6_termOf h hl C x1) (fun E1 h1 z => AX.one (by unfold aMatch; rw [if_neg (by rw [okI_f z.2.1]; decide)]) ⟨z.1, z.2.2⟩) lkX6_termOf mlX6_69 lmX6_termOf lpX6_termOf ⟨Nat.le_of_ble_eq_true rfl, Nat.le_of_ble_eq_true rfl⟩ ⟨Nat.le_of_ble_eq_true rfl, Nat.le_of_ble_eq_true rfl⟩ rfl C.2.1 (Nat.le_of_ble_eq_true rfl) (dk rfl) ?_
  rintro _ h1 ⟨⟨j, hj, rfl, rfl⟩, eh⟩
  obtain rfl := eh.symm
  iterate 3 refine fst1_ok X (dk rfl) rfl ?_
  refine callVX_ok (ci := 8) (T := TX6) (N := 14) (av := [.int x2]) (r := []) X E ht hlk (s6_termOf _ hl C x2) (fun E1 h1 z => AX.one (by unfold aMatch; rw [if_pos (okI_t hj (by decide))]; rw [if_neg (by rw [okI_f z.2.1]; decide)]) ⟨z.1, z.2.2⟩) lkX6_termOf mlX6_69 lmX6_termOf lpX6_termOf ⟨Nat.le_of_ble_eq_true rfl, Nat.le_of_ble_eq_true rfl⟩ ⟨Nat.le_of_ble_eq_true rfl, Nat.le_of_ble_eq_true rfl⟩ rfl C.2.1 (Nat.le_of_ble_eq_true rfl) (dk rfl) ?_
  rintro _ h1 ⟨⟨i, hi, rfl, rfl⟩, eh⟩
  obtain rfl := eh.symm
  iterate 3 refine fst1_ok X (dk rfl) rfl ?_
  refine callVX_ok (ci := 8) (T := TX6) (N := 14) (av := [.int x3]) (r := []) X E ht hlk (s6_answerOf _ hl C x3) (fun E1 h1 z => AX.one (by unfold aMatch; rw [if_pos (okI_t hj (by decide)), if_pos (okI_t hi (by decide))]; rw [if_neg (by rw [okI_f z.2.1]; decide)]) ⟨z.1, z.2.2⟩) lkX6_answerOf mlX6_151 lmX6_answerOf lpX6_answerOf ⟨Nat.le_of_ble_eq_true rfl, Nat.le_of_ble_eq_true rfl⟩ ⟨Nat.le_of_ble_eq_true rfl, Nat.le_of_ble_eq_true rfl⟩ rfl C.2.1 (Nat.le_of_ble_eq_true rfl) (dk rfl) ?_
  rintro _ h1 ⟨⟨k, hk, rfl, rfl⟩, eh⟩
  obtain rfl := eh.symm
  obtain ⟨nj, sj, ej, tj, wj, lj⟩ := H.slot O hj
  obtain ⟨ni, si, ei, ti, wi, li⟩ := H.slot O hi
  have oa := C.2.2.1.2.2.2.1
  have ecm : aMatch (nI j) (nI i) (nI k) st = toldS k (matchL nj ni) st := by
    unfold aMatch
    rw [if_pos (okI_t hj (by decide)), if_pos (okI_t hi (by decide)), if_pos (okI_t hk (by decide)), xI_n (by omega), xI_n (by omega), xI_n (by omega), getD_of sj, getD_of si]
  iterate 2 refine fst1_ok X (dk rfl) rfl ?_
  refine getf_ok X flX6_38 (dk rfl) C.2.1 rfl ?_
  iterate 2 refine fst1_ok X (dk rfl) rfl ?_
  refine callV_ok (ci := 2) (T := TX0) (N := 1) (av := [.ref (B j), .ref (B i)]) (r := []) X E (s0_becomeMatch _ Y C.1 oa (fun n hn => by unfold rmI; rw [if_neg (by omega), if_neg (by omega), if_pos (by omega)]) (i1 := j) (by omega) tj (by omega) (i2 := i) (by omega) ti (by omega) wi li) lkX0_becomeMatch mlX6_194 lmX0_becomeMatch lpX0_becomeMatch ⟨Nat.le_of_ble_eq_true rfl, Nat.le_of_ble_eq_true rfl⟩ ⟨Nat.le_of_ble_eq_true rfl, Nat.le_of_ble_eq_true rfl⟩ rfl oa.2.choose_spec.1 (Nat.le_of_ble_eq_true rfl) (dk rfl) ?_
  rintro _ h2 ⟨rfl, f2, G, S2, g2⟩
  have C2 := C.tm Y S2 f2
  cases eM : matchL nj ni with
  | none =>
    rw [eM] at ecm
    refine br_ok X (dk rfl) rfl (show ((32 : Nat) : Int) + 12 = ((44 : Nat) : Int) from rfl) (fun _ => ?_) (fun q => absurd bI_f' q)
    iterate 2 refine fst1_ok X (dk rfl) rfl ?_
    refine callV_ok (ci := 8) (T := TX6) (N := 14) (av := [.int (Int32.ofInt (-1))]) (r := []) X E (s6_did h2 C2 _) lkX6_did mlX6_80 lmX6_did lpX6_did ⟨Nat.le_of_ble_eq_true rfl, Nat.le_of_ble_eq_true rfl⟩ ⟨Nat.le_of_ble_eq_true rfl, Nat.le_of_ble_eq_true rfl⟩ rfl C2.2.1 (Nat.le_of_ble_eq_true rfl) (dk rfl) ?_
    rintro _ h3 ⟨rfl, C3, f3⟩
    rw [ecm]
    refine WRX.ret ?_
    exact reti_ok X hr hlk rfl (dk rfl) (⟨rfl, rfl, ⟨_, C3, (upK_fs H (by omega) _).cnt _ _, O.cnt _ _⟩, (f2.frC C.1).trans f3⟩) (Nat.le_of_ble_eq_true rfl) (Nat.le_of_ble_eq_true rfl)
  | some rows =>
    rw [eM] at ecm
    obtain ⟨ao1, ao2⟩ := matchL_AO wi li eM
    have md : MDE (upK F 34 G 8) 34 rows := ⟨ao1, fun n hn => by
      obtain ⟨zs, hz⟩ : ∃ zs, rows[n]? = some zs := ⟨_, List.getElem?_eq_getElem (by omega)⟩
      obtain ⟨z1, z2⟩ := ao2 zs (List.mem_of_getElem? hz)
      refine ⟨zs, hz, ?_, z1⟩
      rw [upK_in F 34 G hn, g2 rows eM n hn, getD_of hz, addR_short z2]⟩
    refine br_ok X (dk rfl) rfl (show ((32 : Nat) : Int) + 12 = ((44 : Nat) : Int) from rfl) (fun q => absurd q bI_t) (fun _ => ?_)
    iterate 2 refine fst1_ok X (dk rfl) rfl ?_
    refine callV_ok (ci := 8) (T := TX6) (N := 14) (av := [.ref (P (7 + k))]) (r := []) X E (s6_putSpareAnswerInto h2 Y C2 (upK_fs H (by omega) _) O hk md) lkX6_putSpareAnswerInto mlX6_179 lmX6_putSpareAnswerInto lpX6_putSpareAnswerInto ⟨Nat.le_of_ble_eq_true rfl, Nat.le_of_ble_eq_true rfl⟩ ⟨Nat.le_of_ble_eq_true rfl, Nat.le_of_ble_eq_true rfl⟩ rfl C2.2.1 (Nat.le_of_ble_eq_true rfl) (dk rfl) ?_
    rintro v h3 ⟨g4, rfl, g5, g6⟩
    refine br_ok X (dk rfl) rfl (show ((41 : Nat) : Int) + 8 = ((49 : Nat) : Int) from rfl) (fun _ => ?_) (fun q => absurd trivial q)
    rw [ecm]
    refine WRX.ret ?_
    exact reti_ok X hr hlk rfl (dk rfl) (⟨g4, rfl, g5, (f2.frC C.1).trans g6⟩) (Nat.le_of_ble_eq_true rfl) (Nat.le_of_ble_eq_true rfl)
set_option maxHeartbeats 64000000 in
theorem s6_alike (h : AH) (hl : la.stackTraces = false) (Y : LYO B Q) {st : ST} (C0 : StC B Q P ox kn h st) (x1 x2 x3 x4 : Int32) : CTX la D cA B0 pa yX6_alike cX6_alike 9 (some .int) (rmD 7 4 24) [.ref ox, .int x1, .int x2, .int x3, .int x4] h (AP B Q P ox kn (aAlike x1 x2 x3 x4 st) h) (AX (aAlike x1 x2 x3 x4 st) st h) := by
  refine CTX_of (by decide +kernel) (Nat.le_of_ble_eq_true rfl) ?_
  intro p e s m args below meth c X E hr hlk hnm ht
  have dk : ∀ {pc : Nat} {q : Instr × Nat}, lkd DX6_alike pc = some q → decode cX6_alike pc = .ok q := lkd_ok DX6_alike_ok
  obtain ⟨F, C, H, O⟩ := id C0
  iterate 2 refine fst1_ok X (dk rfl) rfl ?_
  refine callVX_ok (ci := 8) (T := TX6) (N := 14) (av := [.int x1]) (r := []) X E ht hlk (s6_termOf h hl C x1) (fun E1 h1 z => AX.one (by unfold aAlike; rw [if_neg (by rw [okI_f z.2.1]; decide)]) ⟨z.1, z.2.2⟩) lkX6_termOf mlX6_69 lmX6_termOf lpX6_termOf ⟨Nat.le_of_ble_eq_true rfl, Nat.le_of_ble_eq_true rfl⟩ ⟨Nat.le_of_ble_eq_true rfl, Nat.le_of_ble_eq_true rfl⟩ rfl C.2.1 (Nat.le_of_ble_eq_true rfl) (dk rfl) ?_
  rintro _ h1 ⟨⟨j, hj, rfl, rfl⟩, eh⟩
  obtain rfl := eh.symm
  iterate 3 refine fst1_ok X (dk rfl) rfl ?_
  refine callVX_ok (ci := 8) (T := TX6) (N := 14) (av := [.int x2]) (r := []) X E ht hlk (s6_termOf _ hl C x2) (fun E1 h1 z => AX.one (by unfold aAlike; rw [if_pos (okI_t hj (by decide))]; rw [if_neg (by rw [okI_f z.2.1]; decide)]) ⟨z.1, z.2.2⟩) lkX6_termOf mlX6_69 lmX6_termOf lpX6_termOf ⟨Nat.le_of_ble_eq_true rfl, Nat.le_of_ble_eq_true rfl⟩ ⟨Nat.le_of_ble_eq_true rfl, Nat.le_of_ble_eq_true rfl⟩ rfl C.2.1 (Nat.le_of_ble_eq_true rfl) (dk rfl) ?_
  rintro _ h1 ⟨⟨i, hi, rfl, rfl⟩, eh⟩
  obtain rfl := eh.symm
  iterate 3 refine fst1_ok X (dk rfl) rfl ?_
  refine callVX_ok (ci := 8) (T := TX6) (N := 14) (av := [.int x3]) (r := []) X E ht hlk (s6_answerOf _ hl C x3) (fun E1 h1 z => AX.one (by unfold aAlike; rw [if_pos (okI_t hj (by decide)), if_pos (okI_t hi (by decide))]; rw [if_neg (by rw [okI_f z.2.1]; decide)]) ⟨z.1, z.2.2⟩) lkX6_answerOf mlX6_151 lmX6_answerOf lpX6_answerOf ⟨Nat.le_of_ble_eq_true rfl, Nat.le_of_ble_eq_true rfl⟩ ⟨Nat.le_of_ble_eq_true rfl, Nat.le_of_ble_eq_true rfl⟩ rfl C.2.1 (Nat.le_of_ble_eq_true rfl) (dk rfl) ?_
  rintro _ h1 ⟨⟨k, hk, rfl, rfl⟩, eh⟩
  obtain rfl := eh.symm
  obtain ⟨nj, sj, ej, tj, wj, lj⟩ := H.slot O hj
  obtain ⟨ni, si, ei, ti, wi, li⟩ := H.slot O hi
  have t1 : TW nj ∧ nj.length ≤ 16 := ⟨wj, lj⟩
  have t2 : TW ni ∧ ni.length ≤ 16 := ⟨wi, li⟩
  obtain ⟨bY, -, -⟩ := BY_of t1 t2
  have hX := bY.1
  have hrm : ∀ n, n < 8 → rmI (34 + n) = 16 := fun n hn => by unfold rmI; rw [if_neg (by omega), if_neg (by omega), if_pos (by omega)]
  have ecm : x4 = 0 ∨ x4 = 1 → aAlike (nI j) (nI i) (nI k) x4 st = toldS k (rowsA x4 nj ni) st := fun h4 => by
    unfold aAlike
    rw [if_pos (okI_t hj (by decide)), if_pos (okI_t hi (by decide)), if_pos (okI_t hk (by decide)), if_pos h4, xI_n (by omega), xI_n (by omega), xI_n (by omega), getD_of sj, getD_of si]
  iterate 2 refine fst1_ok X (dk rfl) rfl ?_
  refine br_ok X (dk rfl) rfl (show ((23 : Nat) : Int) + 19 = ((42 : Nat) : Int) from rfl) (fun c0 => ?_) (fun c0 => ?_)
  · have x0 : x4 = 0 := c0
    have e4 := ecm (Or.inl x0)
    obtain ⟨Gs, Sx, q1, q2, q3, q4, q5, q6, q7⟩ := runM_ok t1 t2
    refine fst1_ok X (dk rfl) rfl ?_
    refine br_ok X (dk rfl) rfl (show ((44 : Nat) : Int) + 17 = ((61 : Nat) : Int) from rfl) (fun q => absurd x0 q) (fun _ => ?_)
    refine fst1_ok X (dk rfl) rfl ?_
    refine getf_ok X flX6_48 (dk rfl) C.2.1 rfl ?_
    iterate 2 refine fst1_ok X (dk rfl) rfl ?_
    refine callV_ok (ci := 6) (T := TX4) (N := 5) (av := [.ref (B j), .ref (B i)]) (r := []) X E (s4_makeAlike _ Y C (i1 := j) (by omega) (by omega) (i2 := i) (by omega) (by omega) tj ti t1 t2 q7 q5 q2.1) lkX4_makeAlike mlX6_185 lmX4_makeAlike lpX4_makeAlike ⟨Nat.le_of_ble_eq_true rfl, Nat.le_of_ble_eq_true rfl⟩ ⟨Nat.le_of_ble_eq_true rfl, Nat.le_of_ble_eq_true rfl⟩ rfl C.2.2.2.1.choose_spec.choose_spec (Nat.le_of_ble_eq_true rfl) (dk rfl) ?_
    rintro _ h2 ⟨rfl, f2, F2, ps, C2, eF, T2⟩
    have H2 : FS F2 st := H.cg (fun n hn => eF n (by omega))
    refine br_ok X (dk rfl) rfl (show ((58 : Nat) : Int) + 14 = ((72 : Nat) : Int) from rfl) (fun _ => ?_) (fun q => absurd trivial q)
    iterate 2 refine fst1_ok X (dk rfl) rfl ?_
    by_cases hw : Gs.2.2.1 = 0
    · rw [decide_eq_true hw]
      have ac := q6 hw
      obtain ⟨E9, hE⟩ := ExP.ex hX q3 ac
      have pe : PEx x4 nj ni E9 := by
        unfold PEx
        rw [if_pos x0]
        exact ⟨Gs, Sx, q1, hw, by rw [hw] at q7; exact q7, q3, ac, q4, hE⟩
      rw [rowsA_yes t1 t2 pe] at e4
      have oa := C2.2.2.1.2.2.2.1
      refine br_ok X (dk rfl) rfl (show ((76 : Nat) : Int) + 9 = ((85 : Nat) : Int) from rfl) (fun _ => ?_) (fun q => absurd bI_t q)
      refine fst1_ok X (dk rfl) rfl ?_
      refine br_ok X (dk rfl) rfl (show ((87 : Nat) : Int) + 17 = ((104 : Nat) : Int) from rfl) (fun q => absurd x0 q) (fun _ => ?_)
      refine fst1_ok X (dk rfl) rfl ?_
      refine getf_ok X flX6_48 (dk rfl) C2.2.1 rfl ?_
      refine fst1_ok X (dk rfl) rfl ?_
      refine getf_ok X flX6_38 (dk rfl) C2.2.1 rfl ?_
      refine callV_ok (ci := 6) (T := TX4) (N := 5) (av := [.ref (P 2)]) (r := []) X E (s4_tellInto h2 Y T2 (oo := P 2) (f := 34) oa hrm hX q3 ac hE) lkX4_tellInto mlX6_190 lmX4_tellInto lpX4_tellInto ⟨Nat.le_of_ble_eq_true rfl, Nat.le_of_ble_eq_true rfl⟩ ⟨Nat.le_of_ble_eq_true rfl, Nat.le_of_ble_eq_true rfl⟩ rfl T2.2.2.1 (Nat.le_of_ble_eq_true rfl) (dk rfl) ?_
      rintro _ h3 ⟨rfl, f3, G, S3, g2⟩
      have C3 := C2.tm Y S3 f3
      have md : MDR (upK F2 34 G 8) 34 ((List.range 8).map E9) := ⟨by rw [List.length_map, List.length_range], fun n hn => ⟨E9 n, by rw [List.getElem?_map, List.getElem?_range hn]; rfl, by rw [upK_in F2 34 G hn]; exact g2 n hn, PEx.tw t1 t2 pe n hn⟩⟩
      refine br_ok X (dk rfl) rfl (show ((101 : Nat) : Int) + 14 = ((115 : Nat) : Int) from rfl) (fun _ => ?_) (fun q => absurd trivial q)
      iterate 2 refine fst1_ok X (dk rfl) rfl ?_
      refine callV_ok (ci := 8) (T := TX6) (N := 14) (av := [.ref (P (7 + k))]) (r := []) X E (s6_putSpareAnswerIntoR h3 Y C3 (upK_fs H2 (by omega) _) O hk md) lkX6_putSpareAnswerInto mlX6_179 lmX6_putSpareAnswerInto lpX6_putSpareAnswerInto ⟨Nat.le_of_ble_eq_true rfl, Nat.le_of_ble_eq_true rfl⟩ ⟨Nat.le_of_ble_eq_true rfl, Nat.le_of_ble_eq_true rfl⟩ rfl C3.2.1 (Nat.le_of_ble_eq_true rfl) (dk rfl) ?_
      rintro v h4 ⟨g4, rfl, g5, g6⟩
      rw [e4]
      refine WRX.ret ?_
      exact reti_ok X hr hlk rfl (dk rfl) (⟨g4, rfl, g5, (f2.trans (f3.frC C2.1)).trans g6⟩) (Nat.le_of_ble_eq_true rfl) (Nat.le_of_ble_eq_true rfl)
    · rw [decide_eq_false hw]
      rw [rowsA_no (fun ⟨E9, pe⟩ => by
        unfold PEx at pe
        rw [if_pos x0] at pe
        obtain ⟨G2, S2, b1, b2, -⟩ := pe
        rw [q1] at b1
        cases b1
        exact hw b2)] at e4
      refine br_ok X (dk rfl) rfl (show ((76 : Nat) : Int) + 9 = ((85 : Nat) : Int) from rfl) (fun q => absurd q (fun z => z bI_f')) (fun _ => ?_)
      iterate 2 refine fst1_ok X (dk rfl) rfl ?_
      refine callV_ok (ci := 8) (T := TX6) (N := 14) (av := [.int (Int32.ofInt (-1))]) (r := []) X E (s6_did h2 C2 _) lkX6_did mlX6_80 lmX6_did lpX6_did ⟨Nat.le_of_ble_eq_true rfl, Nat.le_of_ble_eq_true rfl⟩ ⟨Nat.le_of_ble_eq_true rfl, Nat.le_of_ble_eq_true rfl⟩ rfl C2.2.1 (Nat.le_of_ble_eq_true rfl) (dk rfl) ?_
      rintro _ h3 ⟨rfl, C3, f3⟩
      rw [e4]
      refine WRX.ret ?_
      exact reti_ok X hr hlk rfl (dk rfl) (⟨rfl, rfl, ⟨_, C3, H2.cnt _ _, O.cnt _ _⟩, f2.trans f3⟩) (Nat.le_of_ble_eq_true rfl) (Nat.le_of_ble_eq_true rfl)
  · have x0 : ¬ x4 = 0 := c0
    iterate 2 refine fst1_ok X (dk rfl) rfl ?_
    refine br_ok X (dk rfl) rfl (show ((29 : Nat) : Int) + 13 = ((42 : Nat) : Int) from rfl) (fun c1 => ?_) (fun c1 => ?_)
    · have x1 : x4 = 1 := c1
      have e4 := ecm (Or.inr x1)
      refine fst1_ok X (dk rfl) rfl ?_
      refine br_ok X (dk rfl) rfl (show ((44 : Nat) : Int) + 17 = ((61 : Nat) : Int) from rfl) (fun _ => ?_) (fun q => absurd x0 q)
      refine fst1_ok X (dk rfl) rfl ?_
      refine getf_ok X flX6_55 (dk rfl) C.2.1 rfl ?_
      iterate 2 refine fst1_ok X (dk rfl) rfl ?_
      refine callV_ok (ci := 3) (T := TX1) (N := 5) (av := [.ref (B j), .ref (B i)]) (r := []) X E (s1_makeAlike _ Y C (i1 := j) (by omega) (by omega) (i2 := i) (by omega) (by omega) tj ti t1 t2) lkX1_makeAlike mlX6_189 lmX1_makeAlike lpX1_makeAlike ⟨Nat.le_of_ble_eq_true rfl, Nat.le_of_ble_eq_true rfl⟩ ⟨Nat.le_of_ble_eq_true rfl, Nat.le_of_ble_eq_true rfl⟩ rfl C.2.2.2.2.1 (Nat.le_of_ble_eq_true rfl) (dk rfl) ?_
      rintro _ h2 ⟨b, rfl, hb, f2, F2, C2, eF, T2⟩
      have H2 : FS F2 st := H.cg (fun n hn => eF n (by omega))
      iterate 2 refine fst1_ok X (dk rfl) rfl ?_
      cases b with
      | true =>
        obtain ⟨k9, hd, f3, ps, T3, HD, GD, AK, MK⟩ := T2 rfl
        have oa := C2.2.2.1.2.2.2.1
        refine br_ok X (dk rfl) rfl (show ((76 : Nat) : Int) + 9 = ((85 : Nat) : Int) from rfl) (fun _ => ?_) (fun q => absurd bI_t q)
        refine fst1_ok X (dk rfl) rfl ?_
        refine br_ok X (dk rfl) rfl (show ((87 : Nat) : Int) + 17 = ((104 : Nat) : Int) from rfl) (fun _ => ?_) (fun q => absurd x0 q)
        refine fst1_ok X (dk rfl) rfl ?_
        refine getf_ok X flX6_55 (dk rfl) C2.2.1 rfl ?_
        refine fst1_ok X (dk rfl) rfl ?_
        refine getf_ok X flX6_38 (dk rfl) C2.2.1 rfl ?_
        refine callV_ok (ci := 3) (T := TX1) (N := 5) (av := [.ref (P 2)]) (r := []) X E (s1_tellInto h2 Y T3 bY HD GD AK (oo := P 2) (f := 34) oa hrm) lkX1_tellInto mlX6_193 lmX1_tellInto lpX1_tellInto ⟨Nat.le_of_ble_eq_true rfl, Nat.le_of_ble_eq_true rfl⟩ ⟨Nat.le_of_ble_eq_true rfl, Nat.le_of_ble_eq_true rfl⟩ rfl T3.2.2.1 (Nat.le_of_ble_eq_true rfl) (dk rfl) ?_
        rintro _ h3 ⟨rfl, f4, S9, E9, G, f5, sk, hE, T4, g2⟩
        have C3 := C2.cl Y T4 f4
        have pe : PEx x4 nj ni E9 := by
          unfold PEx
          rw [if_neg x0]
          exact ⟨k9, S9, MK, AK, sk, hE⟩
        rw [rowsA_yes t1 t2 pe] at e4
        have md : MDR (upK F2 34 G 8) 34 ((List.range 8).map E9) := ⟨by rw [List.length_map, List.length_range], fun n hn => ⟨E9 n, by rw [List.getElem?_map, List.getElem?_range hn]; rfl, by rw [upK_in F2 34 G hn]; exact g2 n hn, PEx.tw t1 t2 pe n hn⟩⟩
        iterate 2 refine fst1_ok X (dk rfl) rfl ?_
        refine callV_ok (ci := 8) (T := TX6) (N := 14) (av := [.ref (P (7 + k))]) (r := []) X E (s6_putSpareAnswerIntoR h3 Y C3 (upK_fs H2 (by omega) _) O hk md) lkX6_putSpareAnswerInto mlX6_179 lmX6_putSpareAnswerInto lpX6_putSpareAnswerInto ⟨Nat.le_of_ble_eq_true rfl, Nat.le_of_ble_eq_true rfl⟩ ⟨Nat.le_of_ble_eq_true rfl, Nat.le_of_ble_eq_true rfl⟩ rfl C3.2.1 (Nat.le_of_ble_eq_true rfl) (dk rfl) ?_
        rintro v h4 ⟨g4, rfl, g5, g6⟩
        rw [e4]
        refine WRX.ret ?_
        exact reti_ok X hr hlk rfl (dk rfl) (⟨g4, rfl, g5, (f2.trans (f4.frC C2.1 C2.2.2.2.lcl)).trans g6⟩) (Nat.le_of_ble_eq_true rfl) (Nat.le_of_ble_eq_true rfl)
      | false =>
        rw [rowsA_no (fun ⟨E9, pe⟩ => by
          unfold PEx at pe
          rw [if_neg x0] at pe
          obtain ⟨k9, S2, b1, b2, -⟩ := pe
          have := hb.mpr ⟨k9, b1, b2⟩
          cases this)] at e4
        refine br_ok X (dk rfl) rfl (show ((76 : Nat) : Int) + 9 = ((85 : Nat) : Int) from rfl) (fun q => absurd q (fun z => z bI_f')) (fun _ => ?_)
        iterate 2 refine fst1_ok X (dk rfl) rfl ?_
        refine callV_ok (ci := 8) (T := TX6) (N := 14) (av := [.int (Int32.ofInt (-1))]) (r := []) X E (s6_did h2 C2 _) lkX6_did mlX6_80 lmX6_did lpX6_did ⟨Nat.le_of_ble_eq_true rfl, Nat.le_of_ble_eq_true rfl⟩ ⟨Nat.le_of_ble_eq_true rfl, Nat.le_of_ble_eq_true rfl⟩ rfl C2.2.1 (Nat.le_of_ble_eq_true rfl) (dk rfl) ?_
        rintro _ h3 ⟨rfl, C3, f3⟩
        rw [e4]
        refine WRX.ret ?_
        exact reti_ok X hr hlk rfl (dk rfl) (⟨rfl, rfl, ⟨_, C3, H2.cnt _ _, O.cnt _ _⟩, f2.trans f3⟩) (Nat.le_of_ble_eq_true rfl) (Nat.le_of_ble_eq_true rfl)
    · exact throwS_ok X E hl ht hlk xwX6_88 (List.mem_of_getElem? (i := 1) rfl) (dk rfl) (dk rfl) (dk rfl) (dk rfl) (dk rfl) ⟨Nat.le_of_ble_eq_true rfl, Nat.le_of_ble_eq_true rfl⟩ ⟨Nat.le_of_ble_eq_true rfl, Nat.le_of_ble_eq_true rfl⟩ (AX.two (by unfold aAlike; rw [if_pos (okI_t hj (by decide)), if_pos (okI_t hi (by decide)), if_pos (okI_t hk (by decide)), if_neg (fun z => z.elim c0 c1)]) ⟨rfl, rfl⟩)
end S24
