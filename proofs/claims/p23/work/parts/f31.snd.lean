/-! what two terms have in common, and a plain term, are matched onto them (written by hand) -/
/-- letters so far matched: what is told, where it stands -/
def Prg (onto xs : List Nat) (b : Nat) (t : List (Option (List Nat))) : Prop := ∀ ys, matchF onto (xs ++ ys) 0 (List.replicate 8 none) = matchF onto ys b t
theorem Prg.nil (onto : List Nat) : Prg onto [] 0 (List.replicate 8 none) := fun _ => rfl
theorem Prg.end {onto xs : List Nat} {b : Nat} {t : List (Option (List Nat))} (h : Prg onto xs b t) : (matchL xs onto).isSome = true := by
  have := h []
  rw [List.append_nil] at this
  unfold matchL
  rw [this]
  rfl
theorem Prg.add {onto xs : List Nat} {b b' x : Nat} {t t' : List (Option (List Nat))} (h : Prg onto xs b t) (h2 : ∀ ys, matchF onto (x :: ys) b t = matchF onto ys b' t') : Prg onto (xs ++ [x]) b' t' := fun ys => by
  rw [List.append_assoc]
  exact (h (x :: ys)).trans (h2 ys)
theorem matchF_hd {onto : List Nat} {b x : Nat} {t : List (Option (List Nat))} (h : onto[b]? = some x) (hx : 10 ≤ x) (ys : List Nat) : matchF onto (x :: ys) b t = matchF onto ys (b + 1) t := by
  have hb := (List.getElem?_eq_some_iff.mp h).1
  rw [matchF, if_neg (by omega), if_pos hx, if_pos h]
theorem matchF_nm {onto : List Nat} {b x : Nat} {t : List (Option (List Nat))} (hb : b < onto.length) (hx : x < 10) (ht : t.getD x none = none ∨ t.getD x none = some (sub' onto b)) (ys : List Nat) : matchF onto (x :: ys) b t = matchF onto ys (b + tl onto b) (t.set x (some (sub' onto b))) := by
  rw [matchF, if_neg (by omega), if_neg (by omega)]
  rcases ht with e | e
  · rw [e]
  · rw [e]
    exact if_pos rfl
/-- what is told is what the pairs are on one side -/
def TIp (f : List Nat × List Nat → List Nat) (t : List (Option (List Nat))) (ps : List (List Nat × List Nat)) : Prop := t.length = 8 ∧ ∀ j, j < 8 → t.getD j none = (ps[j]?).map f
theorem TIp.nil (f : List Nat × List Nat → List Nat) : TIp f (List.replicate 8 none) [] := ⟨List.length_replicate, fun j hj => by
  have : ∀ j, j < 8 → (List.replicate 8 (none : Option (List Nat))).getD j none = none := by decide
  rw [this j hj]
  rfl⟩
theorem TIp.add {f : List Nat × List Nat → List Nat} {t : List (Option (List Nat))} {ps : List (List Nat × List Nat)} (h : TIp f t ps) (q : List Nat × List Nat) (hi : idxP q ps < 8) : (t.getD (idxP q ps) none = none ∨ t.getD (idxP q ps) none = some (f q)) ∧ TIp f (t.set (idxP q ps) (some (f q))) (if idxP q ps < ps.length then ps else ps ++ [q]) := by
  have hg : ∀ j, (t.set (idxP q ps) (some (f q))).getD j none = if idxP q ps = j then some (f q) else t.getD j none := fun j => by
    rw [List.getD_eq_getElem?_getD, List.getD_eq_getElem?_getD, List.getElem?_set]
    by_cases e : idxP q ps = j
    · rw [if_pos e, if_pos e, if_pos (by rw [h.1]; omega)]
      rfl
    · rw [if_neg e, if_neg e]
  by_cases c : idxP q ps < ps.length
  · have e := idxP_eq q ps c
    rw [if_pos c]
    refine ⟨Or.inr (by rw [h.2 _ hi, e]; rfl), by rw [List.length_set]; exact h.1, fun j hj => ?_⟩
    rw [hg]
    by_cases ej : idxP q ps = j
    · rw [if_pos ej, ← ej, e]
      rfl
    · rw [if_neg ej]
      exact h.2 j hj
  · have le := idxP_le q ps
    have e : idxP q ps = ps.length := by omega
    rw [if_neg c]
    refine ⟨Or.inl (by rw [h.2 _ hi, List.getElem?_eq_none (by omega)]; rfl), by rw [List.length_set]; exact h.1, fun j hj => ?_⟩
    rw [hg]
    by_cases ej : idxP q ps = j
    · rw [if_pos ej, ← ej, e, List.getElem?_concat_length]
      rfl
    · rw [if_neg ej, h.2 j hj]
      rcases Nat.lt_or_ge j ps.length with z | z
      · rw [List.getElem?_append_left z]
      · rw [List.getElem?_eq_none (by omega), List.getElem?_eq_none (by rw [List.length_append, List.length_singleton]; omega)]
theorem comF_mono (one other : List Nat) : ∀ (n a b : Nat) (ps : List (List Nat × List Nat)) (M : List Nat), ps.length ≤ (comF one other n a b ps M).1.length
  | 0, _, _, _, _ => Nat.le_refl _
  | n + 1, a, b, ps, M => by
    unfold comF
    split
    · split
      · exact comF_mono one other n _ _ _ _
      · refine Nat.le_trans ?_ (comF_mono one other n _ _ _ _)
        split
        · exact Nat.le_refl _
        · rw [List.length_append]
          omega
    · exact Nat.le_refl _
theorem com_match {one other : List Nat} : ∀ (n a b : Nat) (ps : List (List Nat × List Nat)) (M : List Nat) (t1 t2 : List (Option (List Nat))), Prg one M a t1 → TIp Prod.fst t1 ps → Prg other M b t2 → TIp Prod.snd t2 ps → (comF one other n a b ps M).1.length ≤ 8 →
    (matchL (comF one other n a b ps M).2 one).isSome = true ∧ (matchL (comF one other n a b ps M).2 other).isSome = true
  | 0, a, b, ps, M, t1, t2, p1, _, p2, _, _ => ⟨p1.end, p2.end⟩
  | n + 1, a, b, ps, M, t1, t2, p1, i1, p2, i2, h8 => by
    unfold comF at h8 ⊢
    cases ea : one[a]? with
    | none => exact ⟨p1.end, p2.end⟩
    | some x =>
      cases eb : other[b]? with
      | none => exact ⟨p1.end, p2.end⟩
      | some y =>
        rw [ea, eb] at h8
        dsimp only at h8 ⊢
        have ha := (List.getElem?_eq_some_iff.mp ea).1
        have hb := (List.getElem?_eq_some_iff.mp eb).1
        by_cases c : x = y ∧ 10 ≤ x
        · rw [if_pos c] at h8 ⊢
          exact com_match n _ _ _ _ t1 t2 (p1.add (matchF_hd ea c.2)) i1 (p2.add (matchF_hd (by rw [eb, c.1]) c.2)) i2 h8
        · rw [if_neg c] at h8 ⊢
          have hm := comF_mono one other n (a + tl one a) (b + tl other b) (if idxP (sub' one a, sub' other b) ps < ps.length then ps else ps ++ [(sub' one a, sub' other b)]) (M ++ [idxP (sub' one a, sub' other b) ps])
          have hi : idxP (sub' one a, sub' other b) ps < 8 := by
            by_cases z : idxP (sub' one a, sub' other b) ps < ps.length
            · rw [if_pos z] at hm h8
              omega
            · rw [if_neg z] at hm h8
              have le := idxP_le (sub' one a, sub' other b) ps
              rw [List.length_append, List.length_singleton] at hm
              omega
          obtain ⟨u1, v1⟩ := i1.add (sub' one a, sub' other b) hi
          obtain ⟨u2, v2⟩ := i2.add (sub' one a, sub' other b) hi
          exact com_match n _ _ _ _ _ _ (p1.add (matchF_nm ha (by omega) u1)) v1 (p2.add (matchF_nm hb (by omega) u2)) v2 h8
theorem comL_match {one other : List Nat} (h8 : (comL one other).1.length ≤ 8) : (matchL (comL one other).2 one).isSome = true ∧ (matchL (comL one other).2 other).isSome = true :=
  com_match 16 0 0 [] [] _ _ (Prg.nil one) (TIp.nil _) (Prg.nil other) (TIp.nil _) h8
theorem sub_name {ns : List Nat} {b x : Nat} (h : ns[b]? = some x) (hx : x < 10) : sub' ns b = [x] ∧ tl ns b = 1 := by
  have e : endL 1 (ns.drop b) = some 1 := by
    rw [drop_cons h]
    show (endL (0 + pF x) (ns.drop (b + 1))).map (· + 1) = some 1
    have p0 : pF x = 0 := if_pos hx
    rw [p0]
    have z0 : ∀ r : List Nat, endL (0 + 0) r = some 0 := fun r => by cases r <;> rfl
    rw [z0]
    rfl
  have et := tl_of e
  refine ⟨?_, et⟩
  unfold sub'
  rw [et, drop_cons h]
  rfl
/-- names that become other ones, forth -/
theorem ren_to {ns : List Nat} {f : Nat → Nat} (hf : ∀ x ∈ ns, (x < 10 → f x < 10) ∧ (10 ≤ x → f x = x)) : ∀ (xs : List Nat) (b : Nat) (t : List (Option (List Nat))), xs = ns.drop b → t.length = 8 → (∀ x z, t.getD x none = some z → z = [f x]) → (matchF (ns.map f) xs b t).isSome = true
  | [], _, t, _, _, _ => rfl
  | x :: r, b, t, hx, hl, ht => by
    have hb : b < ns.length := by
      rcases Nat.lt_or_ge b ns.length with z | z
      · exact z
      · rw [List.drop_eq_nil_of_le z] at hx
        cases hx
    obtain ⟨y, hy⟩ : ∃ y, ns[b]? = some y := ⟨_, List.getElem?_eq_getElem hb⟩
    rw [drop_cons hy] at hx
    obtain ⟨rfl, hr⟩ := List.cons.inj hx
    have hm : (ns.map f)[b]? = some (f x) := by rw [List.getElem?_map, hy]; rfl
    obtain ⟨f1, f2⟩ := hf x (List.mem_of_getElem? hy)
    by_cases c : 10 ≤ x
    · rw [matchF_hd (by rw [hm, f2 c]) c]
      exact ren_to hf r (b + 1) t hr hl ht
    · obtain ⟨s1, s2⟩ := sub_name hm (f1 (by omega))
      rw [matchF_nm (by rw [List.length_map]; exact hb) (by omega) (by
        cases e : t.getD x none with
        | none => exact Or.inl rfl
        | some z => exact Or.inr (by rw [ht x z e, s1])), s1, s2]
      refine ren_to hf r (b + 1) _ hr (by rw [List.length_set]; exact hl) (fun u z hu => ?_)
      rw [List.getD_eq_getElem?_getD, List.getElem?_set] at hu
      by_cases e : x = u
      · subst e
        rw [if_pos rfl] at hu
        split at hu
        · cases hu
          rfl
        · cases hu
      · rw [if_neg e] at hu
        exact ht u z (by rw [List.getD_eq_getElem?_getD]; exact hu)
/-- and back -/
theorem ren_from {ns : List Nat} {f : Nat → Nat} (hf : ∀ x ∈ ns, (x < 10 → f x < 10) ∧ (10 ≤ x → f x = x)) (hi : ∀ x ∈ ns, ∀ y ∈ ns, x < 10 → y < 10 → f x = f y → x = y) : ∀ (xs : List Nat) (b : Nat) (t : List (Option (List Nat))), xs = (ns.drop b).map f → t.length = 8 → (∀ u z, t.getD u none = some z → ∃ x ∈ ns, x < 10 ∧ u = f x ∧ z = [x]) → (matchF ns xs b t).isSome = true
  | [], _, t, _, _, _ => rfl
  | v :: r, b, t, hx, hl, ht => by
    have hb : b < ns.length := by
      rcases Nat.lt_or_ge b ns.length with z | z
      · exact z
      · rw [List.drop_eq_nil_of_le z] at hx
        cases hx
    obtain ⟨y, hy⟩ : ∃ y, ns[b]? = some y := ⟨_, List.getElem?_eq_getElem hb⟩
    rw [drop_cons hy, List.map_cons] at hx
    obtain ⟨rfl, hr⟩ := List.cons.inj hx
    have my := List.mem_of_getElem? hy
    obtain ⟨f1, f2⟩ := hf y my
    by_cases c : 10 ≤ y
    · rw [f2 c, matchF_hd hy c]
      exact ren_from hf hi r (b + 1) t hr hl ht
    · obtain ⟨s1, s2⟩ := sub_name hy (by omega)
      rw [matchF_nm hb (f1 (by omega)) (by
        cases e : t.getD (f y) none with
        | none => exact Or.inl rfl
        | some z =>
          obtain ⟨x, x1, x2, x3, x4⟩ := ht _ z e
          rw [x4, s1, hi y my x x1 (by omega) x2 x3]
          exact Or.inr rfl), s1, s2]
      refine ren_from hf hi r (b + 1) _ hr (by rw [List.length_set]; exact hl) (fun u z hu => ?_)
      rw [List.getD_eq_getElem?_getD, List.getElem?_set] at hu
      by_cases e : f y = u
      · rw [if_pos e] at hu
        split at hu
        · cases hu
          exact ⟨y, my, by omega, e.symm, rfl⟩
        · cases hu
      · rw [if_neg e] at hu
        exact ht u z (by rw [List.getD_eq_getElem?_getD]; exact hu)
theorem bit_le {m m' : Nat} (h : ∀ y, y < 8 → bt m y → bt m' y) : ∀ k, k ≤ 8 → cntN m k ≤ cntN m' k
  | 0, _ => Nat.le_refl _
  | k + 1, hk => by
    show cntN m k + m >>> k % 2 ≤ cntN m' k + m' >>> k % 2
    have ih := bit_le h k (by omega)
    have hb := h k (by omega)
    unfold bt at hb
    rcases Nat.mod_two_eq_zero_or_one (m >>> k) with z | z
    · omega
    · have := hb z
      omega
theorem bit_lt {m m' x : Nat} (h : ∀ y, y < 8 → bt m y → bt m' y) (h1 : ¬ bt m x) (h2 : bt m' x) : ∀ k, k ≤ 8 → x < k → cntN m k < cntN m' k
  | 0, _, hx => absurd hx (Nat.not_lt_zero _)
  | k + 1, hk, hx => by
    show cntN m k + m >>> k % 2 < cntN m' k + m' >>> k % 2
    have hb := h k (by omega)
    unfold bt at hb
    by_cases e : x = k
    · subst e
      have ih := bit_le h x (by omega)
      have a2 : m' >>> x % 2 = 1 := h2
      have a1 : m >>> x % 2 = 0 := by
        rcases Nat.mod_two_eq_zero_or_one (m >>> x) with z | z
        · exact z
        · exact absurd z h1
      omega
    · have ih := bit_lt h h1 h2 k (by omega) (by omega)
      rcases Nat.mod_two_eq_zero_or_one (m >>> k) with z | z
      · omega
      · have := hb z
        omega
theorem cntN_le (m : Nat) : ∀ k : Nat, cntN m k ≤ k
  | 0 => Nat.le_refl _
  | k + 1 => by
    show cntN m k + m >>> k % 2 ≤ k + 1
    have := cntN_le m k
    omega
theorem fpN_gm {x : Nat} : ∀ {xs : List Nat}, x ∈ xs → xs[fpN x xs]? = some x
  | [], h => by cases h
  | y :: r, h => by
    by_cases c : y = x
    · subst c
      rw [fpN_eq]
      rfl
    · rw [fpN_ne c]
      exact fpN_gm ((List.mem_cons.mp h).resolve_left (fun z => c z.symm))
theorem fpN_nt {x : Nat} : ∀ {xs : List Nat}, x ∉ xs.take (fpN x xs)
  | [], h => by simp at h
  | y :: r, h => by
    by_cases c : y = x
    · subst c
      rw [fpN_eq] at h
      simp at h
    · rw [fpN_ne c, List.take_succ_cons] at h
      rcases List.mem_cons.mp h with z | z
      · exact c z.symm
      · exact fpN_nt z
/-- unlike names get unlike numbers -/
theorem plP_inj {ns : List Nat} {x y : Nat} (hx : x ∈ ns) (hy : y ∈ ns) (x8 : x < 8) (y8 : y < 8) (h : cntN (namesN (ns.take (fpN x ns))) 8 = cntN (namesN (ns.take (fpN y ns))) 8) : x = y := by
  have key : ∀ x y : Nat, x ∈ ns → x < 8 → fpN x ns < fpN y ns → cntN (namesN (ns.take (fpN x ns))) 8 < cntN (namesN (ns.take (fpN y ns))) 8 := fun x y hx x8 hlt =>
    bit_lt (fun z hz hb => (namesN_mem (by omega) _).mpr (by
      have := (namesN_mem (y := z) (by omega) _).mp hb
      have e : ns.take (fpN x ns) = (ns.take (fpN y ns)).take (fpN x ns) := by rw [List.take_take, Nat.min_eq_left (by omega)]
      rw [e] at this
      exact List.mem_of_mem_take this)) (fun hb => fpN_nt ((namesN_mem (y := x) (by omega) _).mp hb)) ((namesN_mem (by omega) _).mpr (by
      have e : (ns.take (fpN y ns))[fpN x ns]? = some x := by rw [List.getElem?_take_of_lt hlt]; exact fpN_gm hx
      exact List.mem_of_getElem? e)) 8 (Nat.le_refl _) x8
  rcases Nat.lt_trichotomy (fpN x ns) (fpN y ns) with z | z | z
  · have := key x y hx x8 z
    omega
  · have e1 := fpN_gm hx
    have e2 := fpN_gm hy
    rw [z, e2] at e1
    exact (Option.some.inj e1).symm
  · have := key y x hy y8 z
    omega
theorem plP_match {ns : List Nat} (h : TW ns) : (matchL ns (plP ns)).isSome = true ∧ (matchL (plP ns) ns).isSome = true := by
  have hok := h.2
  have hf : ∀ x ∈ ns, (x < 10 → (fun x => if x < 8 then cntN (namesN (ns.take (fpN x ns))) 8 else x) x < 10) ∧ (10 ≤ x → (fun x => if x < 8 then cntN (namesN (ns.take (fpN x ns))) 8 else x) x = x) := fun x hx => by
    have cl : cntN (namesN (ns.take (fpN x ns))) 8 ≤ 8 := cntN_le _ 8
    dsimp only
    constructor
    · intro h10
      rcases hok x hx with q | q
      · rw [if_pos q]
        omega
      · omega
    · intro h10
      exact if_neg (by omega)
  have e : ∀ t : Option (List (Option (List Nat))), (t.map restT).isSome = t.isSome := fun t => by cases t <;> rfl
  constructor
  · unfold matchL
    rw [e]
    exact ren_to hf ns 0 _ rfl List.length_replicate (fun x z hz => by
      exfalso
      rw [List.getD_eq_getElem?_getD, List.getElem?_replicate] at hz
      split at hz <;> cases hz)
  · unfold matchL
    rw [e]
    exact ren_from hf (fun x hx y hy x10 y10 hxy => by
      have x8 : x < 8 := by rcases hok x hx with q | q <;> omega
      have y8 : y < 8 := by rcases hok y hy with q | q <;> omega
      try dsimp only at hxy
      rw [if_pos x8, if_pos y8] at hxy
      exact plP_inj hx hy x8 y8 hxy) (plP ns) 0 _ rfl List.length_replicate (fun x z hz => by
      exfalso
      rw [List.getD_eq_getElem?_getD, List.getElem?_replicate] at hz
      split at hz <;> cases hz)
