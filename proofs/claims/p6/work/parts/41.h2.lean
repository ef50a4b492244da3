/-! graft, put -/
theorem AnsPut {h : AH} {N : Nat} {rows : List (List Nat)} (H : Ans h N rows) {k q n : Nat} {x : List Nat} (hk : k < n) (hq : h q = some (IA x)) (hn : rows.length = n) : ∃ vs, h N = some (105, vs) ∧ vs.length = n ∧ Ans (hup h N (105, vs.set k (.ref q))) N (rows.set k x) := by
  obtain ⟨as, h1, h2, h3⟩ := H
  refine ⟨_, h2, by rw [List.length_map]; omega, as.set k q, by simp [h1], by rw [hup_self, List.map_set], fun i b y e1 e2 => ?_⟩
  by_cases hi : i = k
  · subst hi
    rw [List.getElem?_set_self (by omega)] at e1 e2
    cases e1
    cases e2
    rw [hup_ne _ _ (IA_ne hq h2)]
    exact hq
  · rw [List.getElem?_set_ne (Ne.symm hi)] at e1 e2
    have h4 := h3 i b y e1 e2
    rw [hup_ne _ _ (IA_ne h4 h2)]
    exact h4
theorem AO.set {rows : List (List Nat)} (H : AO rows) {k : Nat} {x : List Nat} (hx : TW x ∧ x.length ≤ 16) : AO (rows.set k x) := by
  refine ⟨by rw [List.length_set]; exact H.1, fun z hz => ?_⟩
  rcases List.mem_or_eq_of_mem_set hz with q | q
  · exact H.2 z q
  · rw [q]; exact hx
theorem AO_none : AO [[0], [1], [2], [3], [4], [5], [6], [7]] := by
  refine ⟨rfl, fun z hz => ?_⟩
  simp only [List.mem_cons, List.not_mem_nil, or_false] at hz
  rcases hz with rfl | rfl | rfl | rfl | rfl | rfl | rfl | rfl <;> exact ⟨TW.name (by omega), by decide⟩
section M39
variable {la : Launch} {D : va_G} {cA : Nat → ClassId} {B0 pa : Nat} {o S A : Nat} {sl : List (List Nat)} {an : List (List (List Nat))} {a r kn th : Int32}
end M39
