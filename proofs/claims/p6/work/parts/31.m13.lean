/-! commonOf -/
/-- the size of the term at a place -/
def tl (xs : List Nat) (a : Nat) : Nat := (endL 1 (xs.drop a)).getD 0
def sub' (xs : List Nat) (a : Nat) : List Nat := (xs.drop a).take (tl xs a)
/-- where a pair stands among the pairs, or their number -/
def idxP (q : List Nat × List Nat) : List (List Nat × List Nat) → Nat
  | [] => 0
  | x :: r => if x = q then 0 else idxP q r + 1
theorem idxP_le (q : List Nat × List Nat) : ∀ ps, idxP q ps ≤ ps.length
  | [] => Nat.le_refl _
  | x :: r => by
    have := idxP_le q r
    unfold idxP
    split
    · omega
    · simp only [List.length_cons]; omega
theorem idxP_lt (q : List Nat × List Nat) : ∀ (ps : List (List Nat × List Nat)) (i : Nat), i < idxP q ps → ∃ x, ps[i]? = some x ∧ x ≠ q
  | [], i, h => by simp [idxP] at h
  | x :: r, i, h => by
    unfold idxP at h
    split at h
    · omega
    · rename_i hx
      cases i with
      | zero => exact ⟨x, by simp, hx⟩
      | succ i =>
        obtain ⟨y, h1, h2⟩ := idxP_lt q r i (by omega)
        exact ⟨y, by simpa using h1, h2⟩
theorem idxP_eq (q : List Nat × List Nat) : ∀ (ps : List (List Nat × List Nat)), idxP q ps < ps.length → ps[idxP q ps]? = some q
  | [], h => by simp [idxP] at h
  | x :: r, h => by
    unfold idxP at h ⊢
    split
    · rename_i hx; simp [hx]
    · rename_i hx
      rw [if_neg hx] at h
      simp only [List.length_cons] at h
      simpa using idxP_eq q r (by omega)
def comF (one other : List Nat) : Nat → Nat → Nat → List (List Nat × List Nat) → List Nat → List (List Nat × List Nat) × List Nat
  | 0, _, _, ps, M => (ps, M)
  | n + 1, a, b, ps, M => match one[a]?, other[b]? with
    | some x, some y => if x = y ∧ 10 ≤ x then comF one other n (a + 1) (b + 1) ps (M ++ [x]) else
        comF one other n (a + tl one a) (b + tl other b) (if idxP (sub' one a, sub' other b) ps < ps.length then ps else ps ++ [(sub' one a, sub' other b)]) (M ++ [idxP (sub' one a, sub' other b) ps])
    | _, _ => (ps, M)
def comL (one other : List Nat) : List (List Nat × List Nat) × List Nat := comF one other 16 0 0 [] []
/-- what holds between the terms, the places and what is made -/
def CI (one other : List Nat) (a b : Nat) (ps : List (List Nat × List Nat)) (M : List Nat) (nd : Nat) : Prop :=
  endL nd (one.drop a) = some (one.length - a) ∧ endL nd (other.drop b) = some (other.length - b) ∧ a ≤ one.length ∧ b ≤ other.length ∧ M.length ≤ a ∧ ps.length ≤ M.length ∧
  (∀ q ∈ ps, TW q.1 ∧ q.1.length ≤ 16 ∧ TW q.2 ∧ q.2.length ≤ 16) ∧ (ps.length ≤ 8 → (∀ R k, endL nd R = some k → endL 1 (M ++ R) = some (M.length + k)) ∧ ∀ x ∈ M, okL x)
theorem endL_nil {n k : Nat} (h : endL n [] = some k) : n = 0 := by
  cases n with
  | zero => rfl
  | succ n => simp [endL] at h
theorem CI_head {one other : List Nat} {a b nd x : Nat} {ps : List (List Nat × List Nat)} {M : List Nat} (h : CI one other a b ps M nd) (ha : one[a]? = some x) (hb : other[b]? = some x) (hx : 10 ≤ x) (hx2 : x < 18) : ∃ nd', CI one other (a + 1) (b + 1) ps (M ++ [x]) nd' := by
  obtain ⟨h1, h2, h3, h4, h5, h6, h7, h8⟩ := h
  have la := (List.getElem?_eq_some_iff.mp ha).1
  have lb := (List.getElem?_eq_some_iff.mp hb).1
  rw [drop_cons ha] at h1
  rw [drop_cons hb] at h2
  cases nd with
  | zero => simp [endL] at h1; omega
  | succ n =>
    simp only [endL, Option.map_eq_some_iff] at h1 h2
    obtain ⟨k1, e1, e2⟩ := h1
    obtain ⟨k2, e3, e4⟩ := h2
    refine ⟨n + pF x, by rw [e1]; congr 1; omega, by rw [e3]; congr 1; omega, by omega, by omega, by simp; omega, by simp; omega, h7, fun q => ?_⟩
    obtain ⟨g1, g2⟩ := h8 q
    refine ⟨fun R k hR => ?_, fun y hy => ?_⟩
    · have := g1 (x :: R) (k + 1) (by simp [endL, hR])
      rw [List.append_assoc, List.singleton_append, this, List.length_append, List.length_singleton]
      congr 1
      omega
    · rcases List.mem_append.mp hy with z | z
      · exact g2 y z
      · simp at z; subst z; exact Or.inr ⟨hx, hx2⟩
theorem CI_name {one other : List Nat} {a b nd : Nat} {ps : List (List Nat × List Nat)} {M : List Nat} (h : CI one other a b ps M nd) (ho : TW one) (hp : TW other) (l1 : one.length ≤ 16) (l2 : other.length ≤ 16) (ha : a < one.length) :
    b < other.length ∧ endL 1 (one.drop a) = some (tl one a) ∧ endL 1 (other.drop b) = some (tl other b) ∧ 0 < tl one a ∧ 0 < tl other b ∧ a + tl one a ≤ one.length ∧ b + tl other b ≤ other.length ∧ TW (sub' one a) ∧ TW (sub' other b) ∧ (sub' one a).length = tl one a ∧ (sub' other b).length = tl other b ∧
    ∃ nd', CI one other (a + tl one a) (b + tl other b) (if idxP (sub' one a, sub' other b) ps < ps.length then ps else ps ++ [(sub' one a, sub' other b)]) (M ++ [idxP (sub' one a, sub' other b) ps]) nd' := by
  obtain ⟨h1, h2, h3, h4, h5, h6, h7, h8⟩ := h
  cases nd with
  | zero => simp [endL] at h1; omega
  | succ n =>
    have hb : b < other.length := by
      rcases Nat.lt_or_ge b other.length with q | q
      · exact q
      · rw [List.drop_eq_nil_of_le q] at h2; have := endL_nil h2; omega
    obtain ⟨k1, e1, e2, e3, e4⟩ := ho.at ha
    obtain ⟨k2, f1, f2, f3, f4⟩ := hp.at hb
    have t1 : tl one a = k1 := by unfold tl; rw [e1]; rfl
    have t2 : tl other b = k2 := by unfold tl; rw [f1]; rfl
    have s1 : (sub' one a).length = tl one a := by unfold sub'; rw [t1]; simp; omega
    have s2 : (sub' other b).length = tl other b := by unfold sub'; rw [t2]; simp; omega
    have w1 : TW (sub' one a) := by unfold sub'; rw [t1]; exact e4
    have w2 : TW (sub' other b) := by unfold sub'; rw [t2]; exact f4
    rw [show n + 1 = 1 + n by omega] at h1 h2
    obtain ⟨j1, g1, g2, g3⟩ := endL_add _ 1 n _ h1
    obtain ⟨j2, g4, g5, g6⟩ := endL_add _ 1 n _ h2
    cases e1.symm.trans g1
    cases f1.symm.trans g4
    rw [List.drop_drop] at g3 g6
    refine ⟨hb, by rw [t1]; exact e1, by rw [t2]; exact f1, by omega, by omega, by omega, by omega, w1, w2, s1, s2, n, ?_⟩
    have hidx := idxP_le (sub' one a, sub' other b) ps
    refine ⟨by rw [t1, g3]; congr 1; omega, by rw [t2, g6]; congr 1; omega, by omega, by omega, by simp; omega, ?_, fun q hq => ?_, fun hle => ?_⟩
    · split
      · simp; omega
      · simp; omega
    · split at hq
      · exact h7 q hq
      · rcases List.mem_append.mp hq with z | z
        · exact h7 q z
        · simp at z; subst z; exact ⟨w1, by show (sub' one a).length ≤ 16; omega, w2, by show (sub' other b).length ≤ 16; omega⟩
    · have hps : ps.length ≤ 8 ∧ idxP (sub' one a, sub' other b) ps < 8 := by
        split at hle
        · exact ⟨hle, by omega⟩
        · simp at hle; omega
      obtain ⟨c1, c2⟩ := h8 hps.1
      refine ⟨fun R k hR => ?_, fun y hy => ?_⟩
      · have hp0 : pF (idxP (sub' one a, sub' other b) ps) = 0 := by unfold pF; rw [if_pos (by omega)]
        have := c1 (idxP (sub' one a, sub' other b) ps :: R) (k + 1) (by simp [endL, hp0, hR])
        rw [List.append_assoc, List.singleton_append, this, List.length_append, List.length_singleton]
        congr 1
        omega
      · rcases List.mem_append.mp hy with z | z
        · exact c2 y z
        · simp at z; subst z; exact Or.inl hps.2
theorem CI_0 {one other : List Nat} (ho : TW one) (hp : TW other) : CI one other 0 0 [] [] 1 :=
  ⟨by simpa using ho.1, by simpa using hp.1, Nat.zero_le _, Nat.zero_le _, Nat.zero_le _, Nat.zero_le _, fun q hq => by simp at hq, fun _ => ⟨fun R k hR => by simpa using hR, fun x hx => by simp at hx⟩⟩
theorem comF_ok {one other : List Nat} (ho : TW one) (hp : TW other) (l1 : one.length ≤ 16) (l2 : other.length ≤ 16) : ∀ (n a b : Nat) (ps : List (List Nat × List Nat)) (M : List Nat) (nd : Nat), CI one other a b ps M nd → one.length ≤ n + a → ∃ nd' b', CI one other one.length b' (comF one other n a b ps M).1 (comF one other n a b ps M).2 nd'
  | 0, a, b, ps, M, nd, h, hn => by
    have : a = one.length := by have := h.2.2.1; omega
    subst this
    exact ⟨nd, b, h⟩
  | n + 1, a, b, ps, M, nd, h, hn => by
    unfold comF
    rcases Nat.lt_or_ge a one.length with ha | ha
    · obtain ⟨n1, n2, n3, n4, n5, -, -, -, -, -, -, nd', hci⟩ := CI_name h ho hp l1 l2 ha
      rw [List.getElem?_eq_getElem ha, List.getElem?_eq_getElem n1]
      dsimp only
      by_cases hxy : one[a] = other[b] ∧ 10 ≤ one[a]
      · rw [if_pos hxy]
        obtain ⟨nd2, h2⟩ := CI_head (x := one[a]) h (List.getElem?_eq_getElem ha) (by rw [List.getElem?_eq_getElem n1, hxy.1]) hxy.2 (ho.2 _ (List.getElem_mem ha)).lt
        exact comF_ok ho hp l1 l2 n (a + 1) (b + 1) ps _ nd2 h2 (by omega)
      · rw [if_neg hxy]
        exact comF_ok ho hp l1 l2 n _ _ _ _ nd' hci (by omega)
    · have hal : a = one.length := by have := h.2.2.1; omega
      subst hal
      rw [List.getElem?_eq_none (Nat.le_refl _)]
      exact ⟨nd, b, h⟩
theorem comL_ok {one other : List Nat} (ho : TW one) (hp : TW other) (l1 : one.length ≤ 16) (l2 : other.length ≤ 16) (h8 : (comL one other).1.length ≤ 8) : TW (comL one other).2 ∧ (comL one other).2.length ≤ 16 := by
  obtain ⟨nd, b, hc⟩ := comF_ok ho hp l1 l2 16 0 0 [] [] 1 (CI_0 ho hp) (by omega)
  obtain ⟨h1, h2, h3, h4, h5, h6, h7, h9⟩ := hc
  obtain ⟨g1, g2⟩ := h9 h8
  rw [List.drop_length] at h1
  have hnd := endL_nil h1
  subst hnd
  have := g1 [] 0 (by simp [endL])
  rw [List.append_nil, Nat.add_zero] at this
  exact ⟨⟨this, g2⟩, by show (comF one other 16 0 0 [] []).2.length ≤ 16; omega⟩
