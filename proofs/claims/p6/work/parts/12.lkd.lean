/-- the instruction at a place of a method's list -/
def lkd (L : List (Nat × Instr × Nat)) (pc : Nat) : Option (Instr × Nat) := match L with
  | [] => none
  | q :: r => if q.1 = pc then some q.2 else lkd r pc
theorem lkd_ok {b : ByteArray} : ∀ {L : List (Nat × Instr × Nat)}, (∀ q ∈ L, decode b q.1 = .ok q.2) → ∀ {pc : Nat} {q : Instr × Nat}, lkd L pc = some q → decode b pc = .ok q
  | [], _, pc, q, h => by simp [lkd] at h
  | x :: r, hL, pc, q, h => by
    unfold lkd at h
    split at h
    · rename_i e
      cases h
      subst e
      exact hL x List.mem_cons_self
    · exact lkd_ok (fun y hy => hL y (List.mem_cons_of_mem _ hy)) h
