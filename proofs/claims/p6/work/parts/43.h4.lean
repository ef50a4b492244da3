/-! shift, tell, behind -/
/-- a row, mapped up to a place -/
def mixL (f : Nat → Nat) (xs : List Nat) (j : Nat) : List Nat := (xs.take j).map f ++ xs.drop j
theorem mix_len {f : Nat → Nat} {xs : List Nat} {j : Nat} (h : j ≤ xs.length) : (mixL f xs j).length = xs.length := by
  unfold mixL
  rw [List.length_append, List.length_map, List.length_take, List.length_drop]
  omega
theorem mix_get {f : Nat → Nat} {xs : List Nat} {j x : Nat} (h : xs[j]? = some x) : (mixL f xs j)[j]? = some x := by
  have hj := (List.getElem?_eq_some_iff.mp h).1
  unfold mixL
  rw [List.getElem?_append_right (by rw [List.length_map, List.length_take]; omega), List.length_map, List.length_take, Nat.min_eq_left (by omega), Nat.sub_self, List.getElem?_drop, Nat.add_zero]
  exact h
theorem mix_succ {f : Nat → Nat} {xs : List Nat} {j x : Nat} (h : xs[j]? = some x) : mixL f xs (j + 1) = (xs.take j).map f ++ f x :: xs.drop (j + 1) := by
  unfold mixL
  rw [List.take_add_one, h]
  simp
theorem mix_set {f : Nat → Nat} {xs : List Nat} {j x : Nat} (h : xs[j]? = some x) : (mixL f xs j).set j (f x) = mixL f xs (j + 1) := by
  have hj := (List.getElem?_eq_some_iff.mp h).1
  rw [mix_succ h]
  unfold mixL
  rw [drop_cons h, List.set_append_right _ _ (by rw [List.length_map, List.length_take]; omega), List.length_map, List.length_take, Nat.min_eq_left (by omega), Nat.sub_self]
  rfl
theorem mix_same {f : Nat → Nat} {xs : List Nat} {j x : Nat} (h : xs[j]? = some x) (hf : f x = x) : mixL f xs j = mixL f xs (j + 1) := by
  rw [mix_succ h, hf]
  unfold mixL
  rw [drop_cons h]
theorem rem8 {x : Nat} (h : x < 100) : nI x - nI x / (Int8.ofInt 8).toInt32 * (Int8.ofInt 8).toInt32 = nI (x % 8) := by
  have : ∀ x : Nat, x < 100 → nI x - nI x / (Int8.ofInt 8).toInt32 * (Int8.ofInt 8).toInt32 = nI (x % 8) := by decide +kernel
  exact this x h
section M39
variable {la : Launch} {D : va_G} {cA : Nat → ClassId} {B0 pa : Nat} {o S A : Nat} {sl : List (List Nat)} {an : List (List (List Nat))} {a r kn th : Int32}
end M39
