/-! head, weight -/
theorem get3 {j1 j2 j3 n : Nat} (h1 : j1 < n) (h2 : j2 < n) (h3 : j3 < n) : ∀ i, i < 3 → ∃ j, [j1, j2, j3][i]? = some j ∧ j < n
  | 0, _ => ⟨j1, rfl, h1⟩
  | 1, _ => ⟨j2, rfl, h2⟩
  | 2, _ => ⟨j3, rfl, h3⟩
  | i + 3, h => by omega
/-- how many of the first places of a set are in it -/
def cntN (m : Nat) : Nat → Nat
  | 0 => 0
  | k + 1 => cntN m k + m >>> k % 2
theorem cnt_bc {m : Nat} (h : m < 256) : bcF (nI m) = nI (cntN m 8) ∧ cntN m 8 ≤ 8 := by
  have : ∀ m : Nat, m < 256 → bcF (nI m) = nI (cntN m 8) ∧ cntN m 8 ≤ 8 := by decide +kernel
  exact this m h
theorem bit8 {m k : Nat} (h : m < 256) (hk : k < 8) : (nI m >>> (nI k &&& 31)) &&& Int32.ofInt 1 = nI (m >>> k % 2) := by
  have : ∀ k : Nat, k < 8 → ∀ m : Nat, m < 256 → (nI m >>> (nI k &&& 31)) &&& Int32.ofInt 1 = nI (m >>> k % 2) := by decide +kernel
  exact this k hk m h
theorem movedN_lt (rows : List (List Nat)) : ∀ k : Nat, movedN rows k < 2 ^ k
  | 0 => by simp [movedN]
  | k + 1 => by
    have ih := movedN_lt rows k
    unfold movedN
    split
    · rw [Nat.pow_succ]; omega
    · exact Nat.or_lt_two_pow (by rw [Nat.pow_succ]; omega) (Nat.pow_lt_pow_right (by omega) (by omega))
theorem cnt_mono (m : Nat) {a : Nat} : ∀ {b : Nat}, a ≤ b → cntN m a ≤ cntN m b
  | 0, h => by rw [show a = 0 by omega]; exact Nat.le_refl _
  | b + 1, h => by
    by_cases e : a = b + 1
    · rw [e]; exact Nat.le_refl _
    · have := cnt_mono m (a := a) (b := b) (by omega)
      show cntN m a ≤ cntN m b + m >>> b % 2
      omega
section M39
variable {la : Launch} {D : va_G} {cA : Nat → ClassId} {B0 pa : Nat} {o S A : Nat} {sl : List (List Nat)} {an : List (List (List Nat))} {a r kn th : Int32}
end M39
