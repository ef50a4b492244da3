/-! the reference's classes, 5: all of it ends, and what it costs -/
theorem getD_set {xs : List Nat} {i j v : Nat} (hi : i < xs.length) : (xs.set i v).getD j 0 = if i = j then v else xs.getD j 0 := by
  rw [List.getD_eq_getElem?_getD, List.getD_eq_getElem?_getD]
  by_cases e : i = j
  · subst e
    rw [List.getElem?_set_self hi, if_pos rfl]
    rfl
  · rw [List.getElem?_set_ne e, if_neg e]
theorem relF_len (of' : List Nat) (a b : Nat) : ∀ k, (relF of' a b k).length = of'.length
  | 0 => rfl
  | k + 1 => by
    rw [relF_succ]
    split
    · rw [List.length_set]; exact relF_len of' a b k
    · exact relF_len of' a b k
theorem relF_get {of' : List Nat} {a b : Nat} (hl : of'.length = 32) : ∀ {k : Nat}, k ≤ 32 → ∀ i, (relF of' a b k).getD i 0 = if i < k ∧ of'.getD i 0 = b then a else of'.getD i 0
  | 0, _, i => by rw [if_neg (by omega)]; rfl
  | k + 1, hk, i => by
    have ih := relF_get (a := a) (b := b) hl (k := k) (by omega)
    have hll := relF_len of' a b k
    rw [relF_succ]
    by_cases c : (relF of' a b k).getD k 0 = b
    · rw [if_pos c, getD_set (by omega), ih i]
      rw [ih k, if_neg (by omega)] at c
      by_cases e : k = i
      · subst e
        rw [if_pos rfl, if_pos ⟨by omega, c⟩]
      · rw [if_neg e]
        by_cases z : i < k ∧ of'.getD i 0 = b
        · rw [if_pos z, if_pos ⟨by omega, z.2⟩]
        · rw [if_neg z, if_neg (fun y => z ⟨by omega, y.2⟩)]
    · rw [if_neg c, ih i]
      rw [ih k, if_neg (by omega)] at c
      by_cases z : i < k ∧ of'.getD i 0 = b
      · rw [if_pos z, if_pos ⟨by omega, z.2⟩]
      · rw [if_neg z, if_neg (fun y => z ⟨by
          rcases Nat.lt_or_ge i k with q | q
          · exact q
          · have : i = k := by omega
            rw [this] at y
            exact absurd y.2 c, y.2⟩)]
/-- each class is told by one of its own -/
def JI (n : Nat) (of' : List Nat) : Prop := of'.length = 32 ∧ ∀ k, k < n → of'.getD k 0 < n ∧ of'.getD (of'.getD k 0) 0 = of'.getD k 0
def fxN (n : Nat) (of' : List Nat) : Nat := sJ (fun k => if of'.getD k 0 = k then 1 else 0) n
theorem fxN_le (n : Nat) (of' : List Nat) : fxN n of' ≤ n := by
  have h : fxN n of' ≤ sJ (fun _ => 1) n := sJ_le (fun i _ => by split <;> omega)
  rw [sJ_1] at h
  exact h
theorem JI_rel {n : Nat} {of' : List Nat} (hn : n ≤ 32) (J : JI n of') {one other : Nat} (h1 : one < n) (h2 : other < n) (hne : of'.getD one 0 ≠ of'.getD other 0) : JI n (relF of' (of'.getD one 0) (of'.getD other 0) n) ∧ fxN n (relF of' (of'.getD one 0) (of'.getD other 0) n) + 1 ≤ fxN n of' := by
  have ja := J.2 one h1
  have jb := J.2 other h2
  generalize of'.getD one 0 = a at *
  generalize of'.getD other 0 = b at *
  have g := relF_get (a := a) (b := b) J.1 hn
  refine ⟨⟨by rw [relF_len]; exact J.1, fun k hk => ?_⟩, ?_⟩
  · rw [g k]
    by_cases c : k < n ∧ of'.getD k 0 = b
    · rw [if_pos c, g a, if_neg (fun z => hne (ja.2.symm.trans z.2))]
      exact ja
    · rw [if_neg c]
      have jk := J.2 k hk
      have hc : of'.getD k 0 ≠ b := fun z => c ⟨hk, z⟩
      rw [g, if_neg (fun z => hc (jk.2.symm.trans z.2))]
      exact jk
  · refine sJ_lek (k := b) jb.1 (fun i hi => ?_) ?_
    · rw [g i]
      by_cases c : i < n ∧ of'.getD i 0 = b
      · rw [if_pos c]
        by_cases e : a = i
        · rw [← e, ja.2] at c
          exact absurd c.2 hne
        · rw [if_neg e]
          exact Nat.zero_le _
      · rw [if_neg c]
        exact Nat.le_refl _
    · rw [g b, if_pos (show b < n ∧ of'.getD b 0 = b from jb), if_neg hne, if_pos jb.2]
      exact Nat.le_refl _
theorem joinF_ok {ts : List (List Nat)} {pt : List Nat} (hn : ts.length ≤ 32) (hP : PtOk ts pt) : ∀ (f : Nat) (of' : List Nat) (can : Bool) (one other : Nat), JI ts.length of' → one < ts.length → other < ts.length → fxN ts.length of' < f → ∃ o2 c2, joinF ts pt f of' can one other = some (o2, c2) ∧ JI ts.length o2 ∧ fxN ts.length o2 ≤ fxN ts.length of'
  | 0, of', can, one, other, J, h1, h2, hf => by omega
  | f + 1, of', can, one, other, J, h1, h2, hf => by
    by_cases c : of'.getD one 0 = of'.getD other 0 ∨ can = false
    · refine ⟨of', can, ?_, J, Nat.le_refl _⟩
      unfold joinF
      rw [if_pos c]
    · obtain ⟨J2, hfx⟩ := JI_rel hn J h1 h2 (fun z => c (Or.inl z))
      have e : joinF ts pt (f + 1) of' can one other = (match headF ts of' (of'.getD one 0), headF ts of' (of'.getD other 0) with
        | some a, some b => if hdT ts a = hdT ts b then joinL (joinF ts pt f) pt a b (pF (hdT ts a)) 0 (relF of' (of'.getD one 0) (of'.getD other 0) ts.length) can else some (relF of' (of'.getD one 0) (of'.getD other 0) ts.length, false)
        | _, _ => some (relF of' (of'.getD one 0) (of'.getD other 0) ts.length, can)) := by
        show (if _ then _ else _) = _
        rw [if_neg c]
        rfl
      rw [e]
      generalize relF of' (of'.getD one 0) (of'.getD other 0) ts.length = of1 at J2 hfx
      have loop : ∀ (a b : Nat), a < ts.length → b < ts.length → hdT ts a = hdT ts b → ∀ (n j : Nat) (o1 : List Nat) (c1 : Bool), j + n = pF (hdT ts a) → JI ts.length o1 → fxN ts.length o1 ≤ fxN ts.length of1 → ∃ o2 c2, joinL (joinF ts pt f) pt a b n j o1 c1 = some (o2, c2) ∧ JI ts.length o2 ∧ fxN ts.length o2 ≤ fxN ts.length of1 := by
        intro a b ha hb hab n
        induction n with
        | zero => intro j o1 c1 hj J1 hx; exact ⟨o1, c1, rfl, J1, hx⟩
        | succ n ih =>
          intro j o1 c1 hj J1 hx
          obtain ⟨o3, c3, k1, k2, k3⟩ := joinF_ok hn hP f o1 c1 _ _ J1 (hP a ha j (by omega)) (hP b hb j (by rw [← hab]; omega)) (by omega)
          obtain ⟨o4, c4, m1, m2, m3⟩ := ih (j + 1) o3 c3 (by omega) k2 (by omega)
          refine ⟨o4, c4, ?_, m2, m3⟩
          unfold joinL
          rw [k1]
          exact m1
      cases ha : headF ts of' (of'.getD one 0) with
      | none => exact ⟨of1, can, rfl, J2, by omega⟩
      | some a =>
        cases hb : headF ts of' (of'.getD other 0) with
        | none => exact ⟨of1, can, rfl, J2, by omega⟩
        | some b =>
          dsimp only
          by_cases hab : hdT ts a = hdT ts b
          · rw [if_pos hab]
            obtain ⟨o4, c4, m1, m2, m3⟩ := loop a b (headF_ok ha).1 (headF_ok hb).1 hab (pF (hdT ts a)) 0 of1 can (Nat.zero_add _) J2 (Nat.le_refl _)
            exact ⟨o4, c4, m1, m2, by omega⟩
          · rw [if_neg hab]
            exact ⟨of1, false, rfl, J2, by omega⟩
/-- the class of a part -/
def pcl (of' pt : List Nat) (a j : Nat) : Nat := of'.getD (pt.getD (3 * a + j) 0) 0
def cgN (n : Nat) (g : List Bool) : Nat := sJ (fun i => if g.getD i false = true then 1 else 0) n
theorem cgN_le (n : Nat) (g : List Bool) : cgN n g ≤ n := by
  have h : cgN n g ≤ sJ (fun _ => 1) n := sJ_le (fun i _ => by split <;> omega)
  rw [sJ_1] at h
  exact h
theorem getDB_set {xs : List Bool} {i j : Nat} {v : Bool} (hi : i < xs.length) : (xs.set i v).getD j false = if i = j then v else xs.getD j false := by
  rw [List.getD_eq_getElem?_getD, List.getD_eq_getElem?_getD]
  by_cases e : i = j
  · subst e
    rw [List.getElem?_set_self hi, if_pos rfl]
    rfl
  · rw [List.getElem?_set_ne e, if_neg e]
theorem cgN_set {n : Nat} {g : List Bool} {c : Nat} (hg : g.length = n) (hc : c < n) (h0 : g.getD c false = false) : cgN n (g.set c true) = cgN n g + 1 := by
  have e := sJ_upd (f := fun i => if (g.set c true).getD i false = true then 1 else 0) (g := fun i => if g.getD i false = true then 1 else 0) (k := c) (n := n) hc (fun i hi => by rw [getDB_set (by omega), if_neg (Ne.symm hi)])
  rw [getDB_set (by omega), if_pos rfl, if_pos rfl, h0, if_neg (by decide)] at e
  unfold cgN
  omega
/-- gone classes: their parts went before them -/
def GI (ts : List (List Nat)) (of' pt : List Nat) (g : List Bool) : Prop := ∃ (rk : Nat → Nat) (K : Nat), (∀ c, rk c < K) ∧ K ≤ cgN ts.length g + 1 ∧ ∀ c, g.getD c false = true → ∀ a, headF ts of' c = some a → ∀ j, j < pF (hdT ts a) → g.getD (pcl of' pt a j) false = true ∧ rk (pcl of' pt a j) < rk c
theorem frF_all {of' pt : List Nat} {g : List Bool} {a : Nat} : ∀ (n j : Nat), frF of' pt g a n j = true → ∀ i, j ≤ i → i < j + n → g.getD (pcl of' pt a i) false = true
  | 0, j, h, i, h1, h2 => by omega
  | n + 1, j, h, i, h1, h2 => by
    unfold frF at h
    split at h
    · rename_i c
      rcases Nat.eq_or_lt_of_le h1 with q | q
      · subst q; exact c
      · exact frF_all n (j + 1) h i (by omega) (by omega)
    · cases h
theorem GI_set {ts : List (List Nat)} {of' pt : List Nat} {g : List Bool} (hg : g.length = ts.length) (G : GI ts of' pt g) {c : Nat} (hc : c < ts.length) (h0 : g.getD c false = false) (hf : freeF ts of' pt g (headF ts of' c) = true) : GI ts of' pt (g.set c true) := by
  obtain ⟨rk, K, k1, k2, k3⟩ := G
  refine ⟨fun x => if x = c then K else rk x, K + 1, fun x => ?_, by rw [cgN_set hg hc h0]; omega, fun x hx a ha j hj => ?_⟩
  · have := k1 x
    show (if x = c then K else rk x) < K + 1
    split <;> omega
  · have put : ∀ y, g.getD y false = true → (g.set c true).getD y false = true ∧ y ≠ c := fun y hy => by
      have hne : y ≠ c := fun z => by rw [z, h0] at hy; cases hy
      rw [getDB_set (by omega), if_neg (Ne.symm hne)]
      exact ⟨hy, hne⟩
    by_cases e : x = c
    · subst e
      rw [ha] at hf
      have h1 := frF_all _ _ hf j (Nat.zero_le _) (by omega)
      obtain ⟨h2, h3⟩ := put _ h1
      refine ⟨h2, ?_⟩
      dsimp only
      rw [if_neg h3, if_pos rfl]
      exact k1 _
    · rw [getDB_set (by omega), if_neg (Ne.symm e)] at hx
      obtain ⟨h1, h2⟩ := k3 x hx a ha j hj
      obtain ⟨h3, h4⟩ := put _ h1
      refine ⟨h3, ?_⟩
      dsimp only
      rw [if_neg h4, if_neg e]
      exact h2
theorem psF_ok {ts : List (List Nat)} {of' pt : List Nat} (hO : OfOk ts of') {g : List Bool} (hg : g.length = ts.length) (G : GI ts of' pt g) : ∀ k, k ≤ ts.length → GI ts of' pt (psF ts of' pt g k).1 ∧ cgN ts.length g ≤ cgN ts.length (psF ts of' pt g k).1 ∧ ((psF ts of' pt g k).2 = true → cgN ts.length g + 1 ≤ cgN ts.length (psF ts of' pt g k).1)
  | 0, _ => ⟨G, Nat.le_refl _, fun h => by cases h⟩
  | k + 1, hk => by
    obtain ⟨h1, h2, h3⟩ := psF_ok hO hg G k (by omega)
    have hl := psF_len ts of' pt g k
    rw [psF_succ]
    by_cases c : (psF ts of' pt g k).1.getD (of'.getD k 0) false = true
    · rw [if_pos c]
      exact ⟨h1, h2, h3⟩
    · rw [if_neg c]
      have c0 : (psF ts of' pt g k).1.getD (of'.getD k 0) false = false := by
        cases hh : (psF ts of' pt g k).1.getD (of'.getD k 0) false with
        | true => exact absurd hh c
        | false => rfl
      by_cases d : freeF ts of' pt (psF ts of' pt g k).1 (headF ts of' (of'.getD k 0)) = true
      · rw [if_pos d]
        have hc := hO k (by omega)
        refine ⟨GI_set (by omega) h1 hc c0 d, ?_, fun _ => ?_⟩
        · rw [cgN_set (by omega) hc c0]; omega
        · rw [cgN_set (by omega) hc c0]; omega
      · rw [if_neg d]
        exact ⟨h1, h2, h3⟩
theorem rdF_ok {ts : List (List Nat)} {of' pt : List Nat} (hO : OfOk ts of') : ∀ (f : Nat) (g : List Bool), g.length = ts.length → GI ts of' pt g → ts.length < f + cgN ts.length g → ∃ g', rdF ts of' pt f g = some g' ∧ GI ts of' pt g' ∧ g'.length = ts.length
  | 0, g, hg, G, hf => by
    have := cgN_le ts.length g
    omega
  | f + 1, g, hg, G, hf => by
    obtain ⟨h1, h2, h3⟩ := psF_ok hO hg G ts.length (Nat.le_refl _)
    have hl := psF_len ts of' pt g ts.length
    unfold rdF
    by_cases c : (psF ts of' pt g ts.length).2 = true
    · rw [if_pos c]
      have := h3 c
      exact rdF_ok hO f _ (by omega) h1 (by omega)
    · rw [if_neg c]
      exact ⟨_, rfl, h1, by omega⟩
theorem GI_0 (ts : List (List Nat)) (of' pt : List Nat) : GI ts of' pt (List.replicate ts.length false) := by
  refine ⟨fun _ => 0, 1, fun _ => Nat.zero_lt_one, by omega, fun c hc => ?_⟩
  rw [List.getD_eq_getElem?_getD, List.getElem?_replicate] at hc
  split at hc <;> cases hc
theorem rnF_no {of' : List Nat} {g : List Bool} : ∀ (n k : Nat), rnF of' g n k = false → ∀ i, k ≤ i → i < k + n → g.getD (of'.getD i 0) false = true
  | 0, k, h, i, h1, h2 => by omega
  | n + 1, k, h, i, h1, h2 => by
    unfold rnF at h
    split at h
    · rename_i c
      rcases Nat.eq_or_lt_of_le h1 with q | q
      · subst q; exact c
      · exact rnF_no n (k + 1) h i (by omega) (by omega)
    · cases h
/-- what a class stands for costs -/
def WB (f : Nat) (r : Option (List Nat)) (C N : Nat) : Prop := N ≤ 16 * C ∧ match r with
  | none => C ≤ 64 * (f + 1)
  | some x => x.length ≤ 16 ∧ C + 1 = 2 * x.length
theorem wcL_ok {go : Nat → Option W3} {of' pt : List Nat} {a f : Nat} : ∀ (n j : Nat) (made : List Nat) (C N : Nat), (∀ i, j ≤ i → i < j + n → ∃ r c1 n1, go (pcl of' pt a i) = some (r, c1, n1) ∧ WB f r c1 n1) → made.length ≤ 16 → C + 1 = 2 * made.length → N ≤ 16 * C → ∃ r C' N', wcL go of' pt a n j made C N = some (r, C', N') ∧ WB (f + 1) r C' N'
  | 0, j, made, C, N, hg, h1, h2, h3 => ⟨some made, C, N, rfl, h3, h1, h2⟩
  | n + 1, j, made, C, N, hg, h1, h2, h3 => by
    obtain ⟨r, c1, n1, g1, g2, g3⟩ := hg j (Nat.le_refl _) (by omega)
    unfold wcL
    rw [show go (of'.getD (pt.getD (3 * a + j) 0) 0) = some (r, c1, n1) from g1]
    cases r with
    | none =>
      dsimp only at g3 ⊢
      exact ⟨none, C + c1, N + n1, rfl, by omega, by show C + c1 ≤ 64 * (f + 1 + 1); omega⟩
    | some x =>
      dsimp only at g3 ⊢
      by_cases c : 16 < made.length + x.length
      · rw [if_pos c]
        exact ⟨none, C + c1, N + n1, rfl, by omega, by show C + c1 ≤ 64 * (f + 1 + 1); omega⟩
      · rw [if_neg c]
        exact wcL_ok n (j + 1) (made ++ x) (C + c1 + 1) (N + n1 + (made.length + x.length)) (fun i hi1 hi2 => hg i (by omega) (by omega)) (by rw [List.length_append]; omega) (by rw [List.length_append]; omega) (by omega)
theorem wcF_ok {ts : List (List Nat)} {of' pt : List Nat} {g : List Bool} {rk : Nat → Nat} (hR : ∀ c, g.getD c false = true → ∀ a, headF ts of' c = some a → ∀ j, j < pF (hdT ts a) → g.getD (pcl of' pt a j) false = true ∧ rk (pcl of' pt a j) < rk c) : ∀ (f c : Nat), g.getD c false = true → rk c < f → ∃ r C N, wcF ts of' pt f c = some (r, C, N) ∧ WB f r C N
  | 0, c, h1, h2 => by omega
  | f + 1, c, h1, h2 => by
    unfold wcF
    cases ho : headF ts of' c with
    | none => exact ⟨_, 1, 1, rfl, by decide, Nat.le_of_ble_eq_true rfl, rfl⟩
    | some a =>
      refine wcL_ok (pF (hdT ts a)) 0 [hdT ts a] 1 1 (fun i _ hi => ?_) (Nat.le_of_ble_eq_true rfl) rfl (by decide)
      obtain ⟨k1, k2⟩ := hR c h1 a ho i (by omega)
      exact wcF_ok hR f _ k1 (by omega)
theorem anF_ok {ts : List (List Nat)} {of' pt : List Nat} {F : Nat} (hW : ∀ k, k < ts.length → ∃ r C N, wcF ts of' pt F (of'.getD k 0) = some (r, C, N) ∧ WB F r C N) : ∀ (n k : Nat) (rows : List (List Nat)) (C N : Nat), k + n = ts.length → ∃ r C' N', anF ts of' pt F n k rows C N = some (r, C', N') ∧ C' ≤ C + 31 * n + 64 * (F + 1) ∧ N' ≤ N + 16 * (C' - C)
  | 0, k, rows, C, N, hk => ⟨some rows, C, N, rfl, by omega, by omega⟩
  | n + 1, k, rows, C, N, hk => by
    unfold anF
    by_cases c : 10 ≤ hdT ts k
    · rw [if_pos c]
      obtain ⟨r, C', N', h1, h2, h3⟩ := anF_ok hW n (k + 1) rows C N (by omega)
      exact ⟨r, C', N', h1, by omega, h3⟩
    · rw [if_neg c]
      obtain ⟨r, c1, n1, g1, g2, g3⟩ := hW k (by omega)
      rw [g1]
      cases r with
      | none =>
        dsimp only at g3 ⊢
        exact ⟨none, C + c1, N + n1, rfl, by omega, by omega⟩
      | some x =>
        dsimp only at g3 ⊢
        obtain ⟨r, C', N', h1, h2, h3⟩ := anF_ok hW n (k + 1) (rows.set (hdT ts k) x) (C + c1) (N + n1) (by omega)
        have := anF_mono _ _ _ _ _ _ _ _ h1
        exact ⟨r, C', N', h1, by omega, by omega⟩
