/-! alike: made alike, and told -/
set_option maxRecDepth 100000 in
theorem lpX8_answer : Cond.selects yX8_answer.cls yX8_answer yX8_answer ∈ WT := WT_of (tbw_7 (List.mem_of_getElem? (i := 135) rfl)) rfl
set_option maxRecDepth 100000 in
theorem lpX9_answer : Cond.selects yX9_answer.cls yX9_answer yX9_answer ∈ WT := WT_of (tbw_7 (List.mem_of_getElem? (i := 124) rfl)) rfl
theorem cnS_le (X : List Nat) (S : SS) : cnS X S ≤ 8 := by
  have h : sJ (cnN X S) 8 ≤ sJ (fun _ => 1) 8 := sJ_le (fun i _ => by
    unfold cnN nbN
    split <;> omega)
  rw [sJ_1] at h
  exact h
theorem alN : ∀ c, c < 9 → 37 + 2 * (64 + 2 * H1 c) + (1 + 8 * (1 + 64 * (c + 1))) ≤ 8500 ∧ 709 + 2 * (11 + 30 * (31 + H0 c)) + (8 + 8 * (1 + 1280 * (c + 1))) ≤ 102500 := by decide
theorem alL1 (x g E : Nat) (h : g ≤ 62 + 2 * x) (h1 : 37 + 2 * (64 + 2 * x) + E ≤ 8500) : 37 + (2 + g) + (2 + g) + E ≤ 8500 := by omega
theorem alL2 (x g E : Nat) (h : g ≤ 30 * (31 + x)) (h1 : 709 + 2 * (11 + 30 * (31 + x)) + E ≤ 102500) : 709 + (11 + g) + (11 + g) + E ≤ 102500 := by omega
theorem alN1 (c : Nat) (hc : c < 9) (g : Nat) (h : g ≤ 62 + 2 * H1 c) : 37 + (2 + g) + (2 + g) + (1 + 8 * (1 + 64 * (c + 1))) ≤ 8500 := alL1 (H1 c) g _ h (alN c hc).1
theorem alN2 (c : Nat) (hc : c < 9) (g : Nat) (h : g ≤ 30 * (31 + H0 c)) : 709 + (11 + g) + (11 + g) + (8 + 8 * (1 + 1280 * (c + 1))) ≤ 102500 := alL2 (H0 c) g _ h (alN c hc).2
/-- room for making two terms alike: what is needed before it is known whether they can be -/
def alC (one other : List Nat) (x : Int32) (C N : Nat) : Prop := (37 ≤ C ∧ 709 ≤ N) ∧ (x = 0 → ∀ G : GS, goF 40 one other none8 0 0 = some G → 2 + G.2.2.2.1 ≤ C ∧ 11 + G.2.2.2.2 ≤ N) ∧ C ≤ 8500 ∧ N ≤ 102500 ∧
  (CanR one other x → (x = 0 → ∃ (G : GS) (S : SS) (aC aN : Nat), goF 40 one other none8 0 0 = some G ∧ G.1 = smO (one ++ other) S ∧ S1 (one ++ other) S ∧ aC = 1 + 8 * (1 + 64 * (cnS (one ++ other) S + 1)) ∧ aN = 8 + 8 * (1 + 1280 * (cnS (one ++ other) S + 1)) ∧ C + (2 + G.2.2.2.1) + aC ≤ 8500 ∧ N + (11 + G.2.2.2.2) + aN ≤ 102500) ∧ (¬ x = 0 → C = 37 ∧ N = 709))
theorem alC_ok {one other : List Nat} (t1 : TW one ∧ one.length ≤ 16) (t2 : TW other ∧ other.length ≤ 16) (x : Int32) : ∃ C N, alC one other x C N := by
  by_cases hx : x = 0
  · obtain ⟨G, hG, g1, g2, g3, g4⟩ := goE t1 t2
    refine ⟨37 + (2 + G.2.2.2.1), 709 + (11 + G.2.2.2.2), ⟨by omega, by omega⟩, fun _ G' hG' => ?_, by omega, by omega, fun hc => ⟨fun _ => ?_, fun z => absurd hx z⟩⟩
    · rw [hG] at hG'
      cases hG'
      exact ⟨by omega, by omega⟩
    · obtain ⟨G', hG', w0⟩ := hc.1 hx
      rw [hG] at hG'
      cases hG'
      obtain ⟨S, e1, e2, -, e3, e4⟩ := g4 w0
      have h9 := cnS_le (one ++ other) S
      exact ⟨G, S, _, _, hG, e1, e2, rfl, rfl, alN1 _ (by omega) _ e3, alN2 _ (by omega) _ e4⟩
  · exact ⟨37, 709, ⟨by omega, by omega⟩, fun z => absurd z hx, by omega, by omega, fun _ => ⟨fun z => absurd z hx, fun _ => ⟨rfl, rfl⟩⟩⟩
section M80
variable {la : Launch} {D : va_G} {cA : Nat → ClassId} {B0 pa : Nat}
variable {o S A : Nat} {sl : List (List Nat)} {an : List (List (List Nat))} {a r kn th : Int32}
end M80
