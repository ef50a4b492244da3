/-! THE PICTURE OF THE HEAP: at an address a kind and a row of values. Kinds below 100 are the classes of vwCl, from 100 on arrays (100: the reference's rows of numbers, 107: those of the class). -/
abbrev AC : Type := Nat × List Value
abbrev AH : Type := Nat → Option AC
def hup (h : AH) (a : Nat) (c : AC) : AH := fun b => if b = a then some c else h b
theorem hup_self (h : AH) (a : Nat) (c : AC) : hup h a c a = some c := by simp [hup]
theorem hup_ne (h : AH) {a b : Nat} (c : AC) (hb : b ≠ a) : hup h a c b = h b := by simp [hup, hb]
/-- the component of an array of a kind -/
def aty (k : Nat) : FieldType := match k with
  | 100 => .int
  | 101 => .boolean
  | 102 => .byte
  | 103 => .object RX5
  | 104 => .object RX0
  | 105 => .array .int
  | 107 => .int
  | _ => .array (.array .int)
def cnm (t : FieldType) : String := match t with
  | .object C => C
  | t => t.toString
def atC (D : va_G) (cA : Nat → ClassId) (a : Nat) (c : AC) (H : Heap) : Prop :=
  (c.1 < 100 → ∃ r : vw_C, vwCl[c.1]? = some r ∧ r.2.2 = c.2.length ∧ t_OB a (D.1 c.1) r.2.2 (D.2 c.1) H (vp_V c.2)) ∧
  (¬ c.1 < 100 → c.1 < 108 ∧ H[a]? = some (arrV (cA c.1) c.2.length (vp_V c.2)))
def Rp (D : va_G) (cA : Nat → ClassId) (B0 : Nat) (h : AH) (H : Heap) : Prop := ∀ (a : Nat) (c : AC), h a = some c → B0 ≤ a ∧ atC D cA a c H
theorem atC.kept {D : va_G} {cA : Nat → ClassId} {a : Nat} {c : AC} {H H1 : Heap} (h : atC D cA a c H) (hq : H1[a]? = H[a]?) : atC D cA a c H1 := by
  refine ⟨fun hc => ?_, fun hc => ?_⟩
  · obtain ⟨r, h1, h2, h3⟩ := h.1 hc
    exact ⟨r, h1, h2, h3.kept hq⟩
  · obtain ⟨h1, h2⟩ := h.2 hc
    exact ⟨h1, hq.trans h2⟩
theorem atC.lt {D : va_G} {cA : Nat → ClassId} {a : Nat} {c : AC} {H : Heap} (h : atC D cA a c H) : a < H.size := by
  by_cases hc : c.1 < 100
  · obtain ⟨r, -, -, cell, h2, -⟩ := h.1 hc
    exact (Array.getElem?_eq_some_iff.mp h2).1
  · exact (Array.getElem?_eq_some_iff.mp (h.2 hc).2).1
theorem Rp.lt {D : va_G} {cA : Nat → ClassId} {B0 : Nat} {h : AH} {H : Heap} (hR : Rp D cA B0 h H) {a : Nat} {c : AC} (ha : h a = some c) : a < H.size := (hR a c ha).2.lt
theorem Rp.put {D : va_G} {cA : Nat → ClassId} {B0 : Nat} {h : AH} {H H1 : Heap} (hR : Rp D cA B0 h H) {a : Nat} {c0 c1 : AC} (ha : h a = some c0) (h1 : atC D cA a c1 H1) (oq : ∀ q : Nat, q ≠ a → H1[q]? = H[q]?) : Rp D cA B0 (hup h a c1) H1 := by
  intro b c hb
  by_cases e : b = a
  · subst e
    rw [hup_self] at hb
    cases hb
    exact ⟨(hR _ _ ha).1, h1⟩
  · rw [hup_ne _ _ e] at hb
    exact ⟨(hR _ _ hb).1, (hR _ _ hb).2.kept (oq b e)⟩
theorem Rp.push {D : va_G} {cA : Nat → ClassId} {B0 : Nat} {h : AH} {H H1 : Heap} (hR : Rp D cA B0 h H) {c1 : AC} (h0 : B0 ≤ H.size) (h1 : atC D cA H.size c1 H1) (oq : ∀ q : Nat, q < H.size → H1[q]? = H[q]?) : Rp D cA B0 (hup h H.size c1) H1 := by
  intro b c hb
  by_cases e : b = H.size
  · subst e
    rw [hup_self] at hb
    cases hb
    exact ⟨h0, h1⟩
  · rw [hup_ne _ _ e] at hb
    exact ⟨(hR _ _ hb).1, (hR _ _ hb).2.kept (oq b (hR.lt hb))⟩
theorem Rp.fresh {D : va_G} {cA : Nat → ClassId} {B0 : Nat} {h : AH} {H : Heap} (hR : Rp D cA B0 h H) : h H.size = none := by
  cases e : h H.size with
  | none => rfl
  | some c => exact absurd (hR.lt e) (Nat.lt_irrefl _)
/-- what the tables say of the classes and of the arrays' classes -/
def KA (cA : Nat → ClassId) (U : State) : Prop := ∀ k : Nat, 100 ≤ k → k < 108 → ∃ (kA : Class) (comp : ClassId), U.vm.classes[cA k]? = some kA ∧ kA.kind = .array comp (aty k) ∧ U.vm.findClass ("[" ++ (aty k).toString) = some (cA k) ∧ ((aty k).isReference = true → U.vm.findClass (cnm (aty k)) = some comp)
def KO (D : va_G) (cA : Nat → ClassId) (U : State) : Prop := va_K D vwCl [] U ∧ KA cA U
theorem KO.moved {D : va_G} {cA : Nat → ClassId} {u U : State} (hvm : u.vm.Alike U.vm) (h : KO D cA u) : KO D cA U := by
  refine ⟨va_K.moved hvm h.1, fun k h1 h2 => ?_⟩
  obtain ⟨kA, comp, a1, a2, a3, a4⟩ := h.2 k h1 h2
  obtain ⟨k', hk', he⟩ := hvm.2.2 _ _ a1
  exact ⟨k', comp, hk', by rw [he]; exact a2, by rw [hvm.findClass]; exact a3, fun hr => by rw [hvm.findClass]; exact a4 hr⟩
theorem KO.arr {D : va_G} {cA : Nat → ClassId} {U : State} (h : KO D cA U) {k : Nat} (h1 : 100 ≤ k) (h2 : k < 108) : ArrOfT U (cA k) (aty k) := by
  obtain ⟨kA, comp, a1, a2, -⟩ := h.2 k h1 h2
  exact fun n z => ⟨(fun k h => by cases h), kA, a1, comp, a2⟩
theorem vwCl_lt {k : Nat} {r : vw_C} (h : vwCl[k]? = some r) : k < 100 := by
  have h1 : k < vwCl.length := (List.getElem?_eq_some_iff.mp h).1
  have h2 : vwCl.length = 13 := rfl
  omega
