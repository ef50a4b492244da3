/-! rows of rows that are made -/
set_option maxRecDepth 100000 in
theorem cl10_9 : Cond.classLink RX10 9 (cnm (aty 105)) ∈ WT := by rw [aty105]; exact WT_of (tbw_6 (List.mem_of_getElem? (i := 78) rfl)) rfl
def filR (as : List Nat) (N : Nat) : List Value := as.map Value.ref ++ List.replicate (N - as.length) .null
theorem filR_0 (N : Nat) : filR [] N = List.replicate N .null := by simp [filR]
theorem filR_len {as : List Nat} {N : Nat} (h : as.length ≤ N) : (filR as N).length = N := by simp [filR]; omega
theorem filR_end (as : List Nat) : filR as as.length = as.map Value.ref := by simp [filR]
theorem filR_set {as : List Nat} {N q : Nat} (h : as.length < N) : (filR as N).set as.length (.ref q) = filR (as ++ [q]) N := by
  have e2 : N - as.length = (N - (as.length + 1)) + 1 := by omega
  unfold filR
  rw [e2, List.replicate_succ, List.set_append_right _ _ (by simp), List.map_append, List.append_assoc, List.length_append]
  simp
section M8
variable {p : Program} {la : Launch} {e : Env} {R : Room} {s : State} {m : MethodId} {args : Array Value} {below : List Frame} {meth : Method} {c : Code} {Q : State → Prop}
variable {D : va_G} {cA : Nat → ClassId} {B0 pa nL : Nat} {cc : ByteArray} {own : String} {pc k n : Nat} {l : List (Nat × Value)} {r : List Value} {h : AH}
theorem newR_ok (X : CX p s m args c D cA B0 nL cc own) (E : EN D cA B0 pa s) {idx kd N : Nat} (hkd : 103 ≤ kd ∧ kd < 107) (hl : Cond.classLink own idx (cnm (aty kd)) ∈ WT) (hN : N ≤ 1000) (hd : decode cc pc = .ok (.anewarray idx, 3)) (hr1 : k + 1 ≤ R.cells) (hr2 : n + N ≤ R.slots)
    (kk : ∀ q : Nat, h q = none → B0 ≤ q → WS p la e R s m args below meth c Q D cA B0 nL (pc + 3) l (.ref q :: r) (hup h q (kd, List.replicate N .null)) (k + 1) (n + N)) : WS p la e R s m args below meth c Q D cA B0 nL pc l (.int (nI N) :: r) h k n := by
  have e : (nI N).toNatClampNeg = N := nI_clamp (by omega)
  have ho : (Cond.arrayOver (aty kd)).before args s = true := OV.moved (Vm.Alike.refl _) E.2.2.1 kd hkd.1 hkd.2
  refine anew_ok X hkd hl ho hd (nI_pos (by omega)) (by rw [e]; exact hN) hr1 (by rw [e]; exact hr2) ?_
  rw [e]
  exact kk
theorem str_ok (X : CX p s m args c D cA B0 nL cc own) {a j q : Nat} {vs fs : List Value} (hd : decode cc pc = .ok (.aastore, 1)) (ha : h a = some (105, vs)) (hq : h q = some (100, fs)) (hj : j < vs.length) (hl : vs.length < 2 ^ 31)
    (kk : WS p la e R s m args below meth c Q D cA B0 nL (pc + 1) l r (hup h a (105, vs.set j (.ref q))) k n) : WS p la e R s m args below meth c Q D cA B0 nL pc l (.ref q :: .int (nI j) :: .ref a :: r) h k n := by
  have e : (nI j).toNatClampNeg = j := nI_clamp (by omega)
  refine ast_ok X (Or.inr (Or.inr (Or.inr (Or.inr (Or.inl ⟨rfl, rfl, q, fs, rfl, hq⟩))))) hd ha ⟨nI_pos (by omega), by rw [e]; exact hj⟩ ?_
  rw [e]
  exact kk
theorem ldr_ok (X : CX p s m args c D cA B0 nL cc own) {a j q : Nat} {as : List Nat} (hd : decode cc pc = .ok (.aaload, 1)) (ha : h a = some (105, as.map Value.ref)) (hq : as[j]? = some q) (hl : as.length < 2 ^ 31)
    (kk : WS p la e R s m args below meth c Q D cA B0 nL (pc + 1) l (.ref q :: r) h k n) : WS p la e R s m args below meth c Q D cA B0 nL pc l (.int (nI j) :: .ref a :: r) h k n := by
  have hj : j < as.length := (List.getElem?_eq_some_iff.mp hq).1
  exact ald_ok X (Or.inr (Or.inr ⟨rfl, by decide⟩)) hd ha (inA_nI (by omega) (by rw [List.getElem?_map, hq]; rfl)) kk
end M8
section M9
variable {la : Launch} {D : va_G} {cA : Nat → ClassId} {B0 pa : Nat}
/-- a new array of new rows -/
def newR (B0 : Nat) (h : AH) (rows : List (List Nat)) (v : Option Value) (h' : AH) : Prop := ∃ A : Nat, v = some (.ref A) ∧ h A = none ∧ B0 ≤ A ∧ Ext h h' ∧ Ans h' A rows
set_option maxHeartbeats 8000000 in
theorem c_none (h : AH) : CT la D cA B0 pa yX10_none cX10_none 2 (some (.array (.array .int))) (rmD 1 9 16) [] h (newR B0 h [[0], [1], [2], [3], [4], [5], [6], [7]]) := by
  refine CT_of (by decide +kernel) (Nat.le_of_ble_eq_true rfl) ?_
  intro p e s m args below meth c X E hr hlk hnm
  have dk : ∀ {pc : Nat} {q : Instr × Nat}, lkd DX10_none pc = some q → decode cX10_none pc = .ok q := lkd_ok DX10_none_ok
  repeat refine fst1_ok X (dk rfl) rfl ?_
  refine newR_ok (N := 8) (kd := 105) X E (by decide) cl10_9 (by decide) (dk rfl) (by decide) (by decide) (fun A hA hB => ?_)
  have loop : ∀ (d j : Nat), d = 8 - j → j ≤ 8 → ∀ (hj : AH) (as : List Nat), as.length = j → Ext h hj → hj A = some (105, filR as 8) → (∀ k a, as[k]? = some a → hj a = some (IA [k])) → WR p la e (rmD 1 9 16) s m args below meth c D cA B0 2 (newR B0 h [[0], [1], [2], [3], [4], [5], [6], [7]]) 8 [(1, vI j), (0, .ref A)] [] hj (1 + j) (8 + j) := by
    intro d
    induction d with
    | zero =>
      intro j hd hj hh as has hE hAs hrows
      have hj2 : j = 8 := by omega
      subst hj2
      repeat refine fst1_ok X (dk rfl) rfl ?_
      refine br_ok X (dk rfl) rfl (show ((11 : Nat) : Int) + 16 = ((27 : Nat) : Int) from rfl) (fun c1 => ?_) (fun c1 => absurd (by decide) c1)
      repeat refine fst1_ok X (dk rfl) rfl ?_
      refine reta_ok X hr hlk (Or.inr ⟨_, rfl⟩) (Or.inr ⟨_, rfl⟩) (dk rfl) ⟨A, rfl, hA, hB, hE, as, has, ?_, ?_⟩ (Nat.le_refl _) (Nat.le_refl _)
      · rw [hAs, ← has, filR_end]
      · intro k a r hk hr'
        rw [hrows k a hk]
        have hk8 : k < 8 := by rw [← has]; exact (List.getElem?_eq_some_iff.mp hk).1
        have : r = [k] := by
          match k, hk8, hr' with
          | 0, _, e => cases e; rfl
          | 1, _, e => cases e; rfl
          | 2, _, e => cases e; rfl
          | 3, _, e => cases e; rfl
          | 4, _, e => cases e; rfl
          | 5, _, e => cases e; rfl
          | 6, _, e => cases e; rfl
          | 7, _, e => cases e; rfl
        rw [this]
    | succ d ih =>
      intro j hd hj hh as has hE hAs hrows
      repeat refine fst1_ok X (dk rfl) rfl ?_
      refine br_ok X (dk rfl) rfl (show ((11 : Nat) : Int) + 16 = ((27 : Nat) : Int) from rfl) (fun c1 => absurd c1 (nI_ge (b := 8) (by omega) (by omega))) (fun c1 => ?_)
      repeat refine fst1_ok X (dk rfl) rfl ?_
      refine callS_ok (av := [vI j]) (r := [vI j, .ref A]) X E (c_row hh j) lkX10_row mlX10_20 lsX10_row ⟨Nat.le_of_ble_eq_true rfl, Nat.le_of_ble_eq_true rfl⟩ ⟨by show 1 + j + 1 ≤ 9; omega, by show 8 + j + 1 ≤ 16; omega⟩ (Nat.le_of_ble_eq_true rfl) (dk rfl) ?_
      rintro v h2 ⟨q, rfl, hq, hBq, rfl⟩
      have hAq : A ≠ q := fun z => by rw [z, hq] at hAs; cases hAs
      refine str_ok (j := j) X (dk rfl) (by rw [hup_ne _ _ hAq]; exact hAs) (hup_self _ _ _) (by rw [filR_len (by omega)]; omega) (by rw [filR_len (by omega)]; omega) ?_
      have e1 : (filR as 8).set j (.ref q) = filR (as ++ [q]) 8 := by rw [← has]; exact filR_set (by omega)
      rw [e1]
      repeat refine fst1_ok X (dk rfl) rfl ?_
      refine br_ok X (dk rfl) rfl (show ((24 : Nat) : Int) + (-16) = ((8 : Nat) : Int) from rfl) (fun _ => ?_) (fun q => absurd trivial q)
      have f2 : Value.int (nI j + Int32.ofInt 1) = vI (j + 1) := congrArg Value.int (by rw [nI_1', nI_add])
      refine WS.loc (l' := [(1, vI (j + 1)), (0, .ref A)]) [0, 1] (by rw [← f2]; rfl) ?_
      refine ih (j + 1) (by omega) (by omega) _ (as ++ [q]) (by simp [has]) ((hE.trans (Ext.new hq _)).set hA _) (hup_self _ _ _) ?_
      intro k a hk
      have hne : ∀ {a : Nat} {xs : List Nat}, hup hh q (IA [j]) a = some (IA xs) → a ≠ A := by
        intro a xs e z
        rw [z, hup_ne _ _ hAq, hAs] at e
        simp [IA] at e
      rcases Nat.lt_or_ge k as.length with hk2 | hk2
      · rw [List.getElem?_append_left hk2] at hk
        have e3 : hup hh q (IA [j]) a = some (IA [k]) := Ext.new hq _ _ _ (hrows k a hk)
        rw [hup_ne _ _ (hne e3), e3]
      · rw [List.getElem?_append_right hk2] at hk
        have hz : k - as.length < 1 := (List.getElem?_eq_some_iff.mp hk).1
        have hk3 : k = j := by omega
        rw [show k - as.length = 0 by omega] at hk
        cases hk
        have e3 : hup hh q (IA [j]) q = some (IA [j]) := hup_self _ _ _
        rw [hup_ne _ _ (hne e3), e3, hk3]
  iterate 3 refine fst1_ok X (dk rfl) rfl ?_
  exact loop 8 0 rfl (by omega) _ [] rfl (Ext.new hA _) (by rw [hup_self, filR_0]) (fun k a hk => by simp at hk)
end M9
