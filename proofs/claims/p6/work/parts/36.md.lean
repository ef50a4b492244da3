/-! the state of the reference, and its own small methods -/
def bI (b : Bool) : Int32 := bif b then Int32.ofInt 1 else Int32.ofInt 0
theorem bI_f : ¬ bI false ≠ 0 := by decide
theorem bI_f' : bI false = 0 := by decide
theorem bI_t : bI true ≠ 0 := by decide
theorem bI_n : ∀ b : Bool, narrow .boolean (.int (bI b)) = .int (bI b) := by decide
/-- a number of a range -/
def inN (N : Nat) (x : Int32) : Prop := ∃ j, j < N ∧ x = nI j
theorem inN_of {x : Int32} {N : Nat} (hN : N < 2 ^ 31) (h1 : ¬ x < 0) (h2 : ¬ nI N ≤ x) : inN N x := by
  obtain ⟨j, hj, rfl⟩ := nI_of h1
  exact ⟨j, nI_lt' hj hN h2, rfl⟩
/-- the reference's object o, its slots S, its answers A -/
def MD (h : AH) (o S A : Nat) (sl : List (List Nat)) (an : List (List (List Nat))) (a r kn th : Int32) : Prop :=
  h o = some (12, [.ref S, .ref A, .int a, .int r, .int kn, .int th]) ∧ Ans h S sl ∧ sl.length = 6 ∧ (∀ r ∈ sl, TW r ∧ r.length ≤ 16) ∧
    ∃ as : List Nat, as.length = 3 ∧ an.length = 3 ∧ h A = some (106, as.map Value.ref) ∧ S ∉ as ∧ ∀ (k b : Nat) (rows : List (List Nat)), as[k]? = some b → an[k]? = some rows → Ans h b rows ∧ AO rows
/-- outside the reference's own three cells all stays -/
def Fr (o S A : Nat) (h h' : AH) : Prop := ∀ (b : Nat) (c : AC), b ≠ o → b ≠ S → b ≠ A → h b = some c → h' b = some c
theorem Fr.rf {o S A : Nat} (h : AH) : Fr o S A h h := fun _ _ _ _ _ e => e
theorem Fr.trans {o S A : Nat} {h h1 h2 : AH} (a : Fr o S A h h1) (b : Fr o S A h1 h2) : Fr o S A h h2 := fun x c q1 q2 q3 e => b x c q1 q2 q3 (a x c q1 q2 q3 e)
theorem Fr.ext {o S A : Nat} {h h' : AH} (a : Ext h h') : Fr o S A h h' := fun x c _ _ _ e => a x c e
theorem Fr.set {o S A : Nat} {h h' : AH} (a : Fr o S A h h') {q : Nat} (hq : q = o ∨ q = S ∨ q = A) (c : AC) : Fr o S A h (hup h' q c) := fun x c' q1 q2 q3 e => by
  rw [hup_ne _ _ (by rcases hq with rfl | rfl | rfl <;> assumption)]
  exact a x c' q1 q2 q3 e
theorem Ans.kind {h : AH} {A : Nat} {rows : List (List Nat)} (H : Ans h A rows) : ∃ vs, h A = some (105, vs) := ⟨_, H.choose_spec.2.1⟩
theorem k_ne {h : AH} {a b : Nat} {k1 k2 : Nat} {v1 v2 : List Value} (h1 : h a = some (k1, v1)) (h2 : h b = some (k2, v2)) (hk : k1 ≠ k2) : a ≠ b := fun z => by
  rw [z, h2] at h1
  cases h1
  exact hk rfl
/-- an answer's array, under a change of a cell that isn't it and isn't a row -/
theorem Ans.hup {h : AH} {A q : Nat} {rows : List (List Nat)} (H : Ans h A rows) (hq : q ≠ A) {k : Nat} {vs : List Value} (hk : h q = some (k, vs)) (hn : k ≠ 100) (c : AC) : Ans (hup h q c) A rows := by
  obtain ⟨as, h1, h2, h3⟩ := H
  refine ⟨as, h1, by rw [hup_ne _ _ (Ne.symm hq)]; exact h2, fun k' a r e1 e2 => ?_⟩
  have h4 := h3 k' a r e1 e2
  rw [hup_ne _ _ (fun z => by rw [z, hk] at h4; cases h4; exact hn rfl)]
  exact h4
section MDs
variable {h : AH} {o S A : Nat} {sl : List (List Nat)} {an : List (List (List Nat))} {a r kn th : Int32}
theorem MD.obj (M : MD h o S A sl an a r kn th) : h o = some (12, [.ref S, .ref A, .int a, .int r, .int kn, .int th]) := M.1
theorem MD.ext (M : MD h o S A sl an a r kn th) {h' : AH} (E : Ext h h') : MD h' o S A sl an a r kn th := by
  obtain ⟨m1, m2, m3, m4, as, m5, m6, m7, m8, m9⟩ := M
  exact ⟨E _ _ m1, m2.ext E, m3, m4, as, m5, m6, E _ _ m7, m8, fun k b rows e1 e2 => ⟨(m9 k b rows e1 e2).1.ext E, (m9 k b rows e1 e2).2⟩⟩
theorem MD.fld (M : MD h o S A sl an a r kn th) (a' r' kn' th' : Int32) : MD (hup h o (12, [.ref S, .ref A, .int a', .int r', .int kn', .int th'])) o S A sl an a' r' kn' th' := by
  obtain ⟨m1, m2, m3, m4, as, m5, m6, m7, m8, m9⟩ := M
  obtain ⟨vs, hS⟩ := m2.kind
  refine ⟨hup_self _ _ _, m2.hup (k_ne m1 hS (by decide)) m1 (by decide) _, m3, m4, as, m5, m6, by rw [hup_ne _ _ (k_ne m7 m1 (by decide))]; exact m7, m8, fun k b rows e1 e2 => ?_⟩
  obtain ⟨n1, n2⟩ := m9 k b rows e1 e2
  obtain ⟨vs', hb⟩ := n1.kind
  exact ⟨n1.hup (k_ne m1 hb (by decide)) m1 (by decide) _, n2⟩
/-- the row of a slot -/
theorem MD.slot (M : MD h o S A sl an a r kn th) : ∃ ss : List Nat, ss.length = 6 ∧ h S = some (105, ss.map Value.ref) ∧ ∀ k, k < 6 → ∃ b r, ss[k]? = some b ∧ sl[k]? = some r ∧ h b = some (IA r) ∧ TW r ∧ r.length ≤ 16 := by
  obtain ⟨m1, m2, m3, m4, -⟩ := M
  obtain ⟨ss, h1, h2, h3⟩ := m2.row
  refine ⟨ss, by omega, h2, fun k hk => ?_⟩
  obtain ⟨b, r, e1, e2, e3⟩ := h3 k (by omega)
  exact ⟨b, r, e1, e2, e3, m4 r (List.mem_of_getElem? e2)⟩
/-- the rows of an answer -/
theorem MD.ans (M : MD h o S A sl an a r kn th) : ∃ as : List Nat, as.length = 3 ∧ h A = some (106, as.map Value.ref) ∧ ∀ k, k < 3 → ∃ b rows, as[k]? = some b ∧ an[k]? = some rows ∧ Ans h b rows ∧ AO rows ∧ b ≠ S := by
  obtain ⟨m1, m2, m3, m4, as, m5, m6, m7, m8, m9⟩ := M
  refine ⟨as, m5, m7, fun k hk => ?_⟩
  obtain ⟨b, hb⟩ : ∃ b, as[k]? = some b := ⟨as[k]'(by omega), by simp⟩
  obtain ⟨rows, hr⟩ : ∃ rows, an[k]? = some rows := ⟨an[k]'(by omega), by simp⟩
  obtain ⟨n1, n2⟩ := m9 k b rows hb hr
  exact ⟨b, rows, hb, hr, n1, n2, fun z => m8 (by rw [← z]; exact List.mem_of_getElem? hb)⟩
theorem MD.setS (M : MD h o S A sl an a r kn th) {k q : Nat} {x : List Nat} (hk : k < 6) (hq : h q = some (IA x)) (hx : TW x ∧ x.length ≤ 16) : ∃ vs, h S = some (105, vs) ∧ vs.length = 6 ∧ MD (hup h S (105, vs.set k (.ref q))) o S A (sl.set k x) an a r kn th := by
  obtain ⟨m1, ⟨ss, s1, s2, s3⟩, m3, m4, as, m5, m6, m7, m8, m9⟩ := M
  have hSo : o ≠ S := k_ne m1 s2 (by decide)
  have hSA : A ≠ S := k_ne m7 s2 (by decide)
  refine ⟨_, s2, by rw [List.length_map]; omega, by rw [hup_ne _ _ hSo]; exact m1, ⟨ss.set k q, by simp [s1], by rw [hup_self, List.map_set], fun i b y e1 e2 => ?_⟩, by simp [m3], fun y hy => ?_, as, m5, m6, by rw [hup_ne _ _ hSA]; exact m7, m8, fun i b rows e1 e2 => ?_⟩
  · by_cases hi : i = k
    · subst hi
      rw [List.getElem?_set_self (by omega)] at e1 e2
      cases e1
      cases e2
      rw [hup_ne _ _ (IA_ne hq s2)]
      exact hq
    · rw [List.getElem?_set_ne (Ne.symm hi)] at e1 e2
      have h4 := s3 i b y e1 e2
      rw [hup_ne _ _ (IA_ne h4 s2)]
      exact h4
  · rcases List.mem_or_eq_of_mem_set hy with z | z
    · exact m4 y z
    · rw [z]; exact hx
  · obtain ⟨n1, n2⟩ := m9 i b rows e1 e2
    exact ⟨n1.hup (fun z => m8 (by rw [z]; exact List.mem_of_getElem? e1)) s2 (by decide) _, n2⟩
theorem MD.setA (M : MD h o S A sl an a r kn th) {k q : Nat} {x : List (List Nat)} (hk : k < 3) (hq : Ans h q x) (hx : AO x) (hqS : q ≠ S) : ∃ vs, h A = some (106, vs) ∧ vs.length = 3 ∧ MD (hup h A (106, vs.set k (.ref q))) o S A sl (an.set k x) a r kn th := by
  obtain ⟨m1, m2, m3, m4, as, m5, m6, m7, m8, m9⟩ := M
  obtain ⟨vs, hS⟩ := m2.kind
  obtain ⟨vq, hq'⟩ := hq.kind
  have hAo : o ≠ A := k_ne m1 m7 (by decide)
  refine ⟨_, m7, by rw [List.length_map]; omega, by rw [hup_ne _ _ hAo]; exact m1, m2.hup (k_ne m7 hS (by decide)) m7 (by decide) _, m3, m4, as.set k q, by simp [m5], by simp [m6], by rw [hup_self, List.map_set], fun z => ?_, fun i b rows e1 e2 => ?_⟩
  · rcases List.mem_or_eq_of_mem_set z with y | y
    · exact m8 y
    · exact hqS y.symm
  · by_cases hi : i = k
    · subst hi
      rw [List.getElem?_set_self (by omega)] at e1 e2
      cases e1
      cases e2
      exact ⟨hq.hup (k_ne m7 hq' (by decide)) m7 (by decide) _, hx⟩
    · rw [List.getElem?_set_ne (Ne.symm hi)] at e1 e2
      obtain ⟨n1, n2⟩ := m9 i b rows e1 e2
      obtain ⟨vb, hb⟩ := n1.kind
      exact ⟨n1.hup (k_ne m7 hb (by decide)) m7 (by decide) _, n2⟩
end MDs
