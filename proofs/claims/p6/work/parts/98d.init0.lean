/-! the constructors of answers and of the class itself (printed by wip/p40/genInit2.py) -/
theorem clX0_9 : Cond.classLink RX0 9 (cnm (aty 103)) ∈ WT := by rw [aty103]; exact WT_of (tbw_1 (List.mem_of_getElem? (i := 65) rfl)) rfl
theorem clX6_9 : Cond.classLink RX6 9 (cnm (aty 103)) ∈ WT := by rw [aty103]; exact WT_of (tbw_1 (List.mem_of_getElem? (i := 37) rfl)) rfl
theorem clX6_15 : Cond.classLink RX6 15 (cnm (aty 104)) ∈ WT := by rw [aty104]; exact WT_of (tbw_1 (List.mem_of_getElem? (i := 39) rfl)) rfl
theorem filR_at (as : List Nat) (q N : Nat) : (filR (as ++ [q]) N)[as.length]? = some (.ref q) := by
  unfold filR
  rw [List.map_append, List.append_assoc, List.getElem?_append_right (by simp)]
  simp
/-- an array that is being filled with terms, or with answers -/
def Fil (Γ0 : TY) (h0 : AH) (ex : Nat → Prop) (arr kd N : Nat) (TT : TY → Nat → Prop) (as : List Nat) (Γ : TY) (h : AH) : Prop :=
  Sub Γ0 Γ ∧ Tyg Γ h ∧ KG Γ ∧ (∀ t ∈ as, TT Γ t) ∧ h arr = some (kd, filR as N) ∧ Γ arr = none ∧ ∀ (a : Nat) (c : AC), ¬ ex a → a ≠ arr → Γ0 a = none → h0 a = some c → h a = some c ∧ Γ a = none
section FILL
variable {Γ0 Γ Γ' : TY} {h0 h h' : AH} {ex : Nat → Prop} {arr kd N : Nat} {TT : TY → Nat → Prop} {as : List Nat}
theorem Fil.grow (F : Fil Γ0 h0 ex arr kd N TT as Γ h) (hm : ∀ {Γ Γ' : TY} {t : Nat}, Sub Γ Γ' → TT Γ t → TT Γ' t) (S : Sub Γ Γ') (I : Tyg Γ' h') (K : KG Γ') (f : ∀ (a : Nat) (c : AC), Γ a = none → h a = some c → h' a = some c ∧ Γ' a = none) : Fil Γ0 h0 ex arr kd N TT as Γ' h' := by
  obtain ⟨f1, f2, f3, f4, f5, f6, f7⟩ := F
  exact ⟨f1.trans S, I, K, fun t ht => hm S (f4 t ht), (f _ _ f6 f5).1, (f _ _ f6 f5).2, fun a c g1 g2 g3 g4 => f a c (f7 a c g1 g2 g3 g4).2 (f7 a c g1 g2 g3 g4).1⟩
theorem Fil.put (F : Fil Γ0 h0 ex arr kd N TT as Γ h) {q : Nat} (hq : TT Γ q) (hl : as.length < N) : Fil Γ0 h0 ex arr kd N TT (as ++ [q]) Γ (hup h arr (kd, (filR as N).set as.length (.ref q))) := by
  obtain ⟨f1, f2, f3, f4, f5, f6, f7⟩ := F
  refine ⟨f1, f2.setc f6 _, f3, fun t ht => (List.mem_append.mp ht).elim (f4 t) (fun z => by rw [List.mem_singleton.mp z]; exact hq), by rw [hup_self, filR_set hl], f6, fun a c g1 g2 g3 g4 => ?_⟩
  rw [hup_ne _ _ g2]
  exact f7 a c g1 g2 g3 g4
end FILL
section M98d
variable {la : Launch} {D : va_G} {cA : Nat → ClassId} {B0 pa : Nat}
end M98d
