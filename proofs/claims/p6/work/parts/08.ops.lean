/-! THE SINGLE STEPS: branches, fields, arrays, making -/
/-- a field by its pool number: its class's place in vwCl, its own place -/
def FL (own : String) (idx ci kf : Nat) : Prop := ∃ (C : String) (T : u_T) (N : Nat) (ty : Nat → FieldType), vwCl[ci]? = some (C, T, N) ∧ (∀ w ∈ u_ws C T N, w ∈ WT) ∧ kf < N ∧ Cond.fieldLink own idx C (T kf).2.1 (T kf).2.2.1 ∈ WT ∧ (T kf).1 = C ∧
  (∀ k, k < N → parseFieldDescriptor (T k).2.2.1 = some (ty k)) ∧ (∀ a, a < N → ∀ b, b < N → a ≠ b → (T a).2.1 ≠ (T b).2.1)
/-- the type of a field, and whether it is final -/
def FT (ci kf : Nat) (ty : FieldType) (fin : Bool) : Prop := ∃ (C : String) (T : u_T) (N : Nat), vwCl[ci]? = some (C, T, N) ∧ parseFieldDescriptor (T kf).2.2.1 = some ty ∧ (T kf).2.2.2 = fin
/-- a branch: when, by how much, what stays on the stack -/
def cbr (i : Instr) (st : List Value) : Option (Prop × Int × List Value) := match i with
  | .goto off => some (True, off, st)
  | .ifCond .eq off => match st with | .int x :: r => some (x = 0, off, r) | _ => none
  | .ifCond .ne off => match st with | .int x :: r => some (¬ x = 0, off, r) | _ => none
  | .ifCond .lt off => match st with | .int x :: r => some (x < 0, off, r) | _ => none
  | .ifCond .ge off => match st with | .int x :: r => some (0 ≤ x, off, r) | _ => none
  | .ifCond .gt off => match st with | .int x :: r => some (0 < x, off, r) | _ => none
  | .ifCond .le off => match st with | .int x :: r => some (x ≤ 0, off, r) | _ => none
  | .if_icmp .eq off => match st with | .int y :: .int x :: r => some (x = y, off, r) | _ => none
  | .if_icmp .ne off => match st with | .int y :: .int x :: r => some (¬ x = y, off, r) | _ => none
  | .if_icmp .lt off => match st with | .int y :: .int x :: r => some (x < y, off, r) | _ => none
  | .if_icmp .ge off => match st with | .int y :: .int x :: r => some (y ≤ x, off, r) | _ => none
  | .if_icmp .gt off => match st with | .int y :: .int x :: r => some (y < x, off, r) | _ => none
  | .if_icmp .le off => match st with | .int y :: .int x :: r => some (x ≤ y, off, r) | _ => none
  | .if_acmp .eq off => match st with | .ref y :: .ref x :: r => some (x = y, off, r) | _ => none
  | .if_acmp .ne off => match st with | .ref y :: .ref x :: r => some (¬ x = y, off, r) | _ => none
  | .ifnull off => match st with | .ref _ :: r => some (False, off, r) | .null :: r => some (True, off, r) | _ => none
  | .ifnonnull off => match st with | .ref _ :: r => some (True, off, r) | .null :: r => some (False, off, r) | _ => none
  | _ => none
section OPS
variable {p : Program} {la : Launch} {e : Env} {R : Room} {s : State} {m : MethodId} {args : Array Value} {below : List Frame} {meth : Method} {c : Code} {Q : State → Prop}
variable {D : va_G} {cA : Nat → ClassId} {B0 nL : Nat} {cc : ByteArray} {own : String} {pc k n : Nat} {l : List (Nat × Value)} {r : List Value} {h : AH}
set_option maxHeartbeats 4000000 in
theorem br_ok (X : CX p s m args c D cA B0 nL cc own) {i : Instr} {st : List Value} {P : Prop} {off : Int} {tgt : Nat} (hd : decode cc pc = .ok (i, 3)) (hs : cbr i st = some (P, off, r)) (ht : (pc : Int) + off = (tgt : Int))
    (kt : P → WS p la e R s m args below meth c Q D cA B0 nL tgt l r h k n) (kf : ¬ P → WS p la e R s m args below meth c Q D cA B0 nL (pc + 3) l r h k n) : WS p la e R s m args below meth c Q D cA B0 nL pc l st h k n := by
  obtain ⟨hx, hb, -⟩ := X
  intro H locs ls hH hl
  cases i
  case goto =>
    simp only [cbr, Option.some.injEq, Prod.mk.injEq] at hs
    obtain ⟨rfl, rfl, rfl⟩ := hs
    exact lv_goto hx hb hd ht (kt trivial H locs ls hH hl)
  case ifCond cnd o =>
    cases cnd <;> simp only [cbr] at hs <;> split at hs <;> simp only [Option.some.injEq, Prod.mk.injEq, reduceCtorEq] at hs <;> obtain ⟨rfl, rfl, rfl⟩ := hs
    · exact lv_if_eq hx hb hd ht (fun q => kt q H locs ls hH hl) (fun q => kf q H locs ls hH hl)
    · exact lv_if_ne hx hb hd ht (fun q => kt q H locs ls hH hl) (fun q => kf (fun z => z q) H locs ls hH hl)
    · exact lv_if_lt hx hb hd ht (fun q => kt q H locs ls hH hl) (fun q => kf q H locs ls hH hl)
    · exact lv_if_ge hx hb hd ht (fun q => kt q H locs ls hH hl) (fun q => kf q H locs ls hH hl)
    · exact lv_if_gt hx hb hd ht (fun q => kt q H locs ls hH hl) (fun q => kf q H locs ls hH hl)
    · exact lv_if_le hx hb hd ht (fun q => kt q H locs ls hH hl) (fun q => kf q H locs ls hH hl)
  case if_icmp cnd o =>
    cases cnd <;> simp only [cbr] at hs <;> split at hs <;> simp only [Option.some.injEq, Prod.mk.injEq, reduceCtorEq] at hs <;> obtain ⟨rfl, rfl, rfl⟩ := hs
    · exact lv_icmp_eq hx hb hd ht (fun q => kt q H locs ls hH hl) (fun q => kf q H locs ls hH hl)
    · exact lv_icmp_ne hx hb hd ht (fun q => kt q H locs ls hH hl) (fun q => kf (fun z => z q) H locs ls hH hl)
    · exact lv_icmp_lt hx hb hd ht (fun q => kt q H locs ls hH hl) (fun q => kf q H locs ls hH hl)
    · exact lv_icmp_ge hx hb hd ht (fun q => kt q H locs ls hH hl) (fun q => kf q H locs ls hH hl)
    · exact lv_icmp_gt hx hb hd ht (fun q => kt q H locs ls hH hl) (fun q => kf q H locs ls hH hl)
    · exact lv_icmp_le hx hb hd ht (fun q => kt q H locs ls hH hl) (fun q => kf q H locs ls hH hl)
  case if_acmp cnd o =>
    cases cnd <;> simp only [cbr] at hs <;> split at hs <;> simp only [Option.some.injEq, Prod.mk.injEq, reduceCtorEq] at hs <;> obtain ⟨rfl, rfl, rfl⟩ := hs
    · rename_i y x _
      exact lv_acmp_eq (rx := some x) (ry := some y) hx hb hd ht (fun q => kt (Option.some.inj q) H locs ls hH hl) (fun q => kf (fun z => q (congrArg some z)) H locs ls hH hl)
    · rename_i y x _
      exact lv_acmp_ne (rx := some x) (ry := some y) hx hb hd ht (fun q => kt (fun z => q (congrArg some z)) H locs ls hH hl) (fun q => kf (fun z => z (Option.some.inj q)) H locs ls hH hl)
  case ifnull =>
    simp only [cbr] at hs
    split at hs <;> simp only [Option.some.injEq, Prod.mk.injEq, reduceCtorEq] at hs <;> obtain ⟨rfl, rfl, rfl⟩ := hs
    · exact lv_ifnull hx hb hd (kf (fun z => z) H locs ls hH hl)
    · exact lv_ifnullN hx hb hd ht (kt trivial H locs ls hH hl)
  case ifnonnull =>
    simp only [cbr] at hs
    split at hs <;> simp only [Option.some.injEq, Prod.mk.injEq, reduceCtorEq] at hs <;> obtain ⟨rfl, rfl, rfl⟩ := hs
    · exact lv_ifnonnull hx hb hd ht (kt trivial H locs ls hH hl)
    · exact lv_ifnonnullN hx hb hd (kf (fun z => z) H locs ls hH hl)
  all_goals simp only [cbr, reduceCtorEq] at hs
theorem getf_ok (X : CX p s m args c D cA B0 nL cc own) {idx ci kf a : Nat} {fs : List Value} {v : Value} (hF : FL own idx ci kf) (hd : decode cc pc = .ok (.getfield idx, 3)) (ha : h a = some (ci, fs)) (hv : fs[kf]? = some v)
    (kk : WS p la e R s m args below meth c Q D cA B0 nL (pc + 3) l (v :: r) h k n) : WS p la e R s m args below meth c Q D cA B0 nL pc l (.ref a :: r) h k n := by
  obtain ⟨hx, hb, hml, hown, hts, hK, hB⟩ := X
  obtain ⟨C, T, N, ty, hc, hin, hk, hl, hC, hty, hnm⟩ := hF
  intro H locs ls hH hls
  obtain ⟨r0, h1, h2, cell, q1, q2, q3, q4⟩ := (hH.1 a _ ha).2.1 (vwCl_lt hc)
  have hr : r0 = (C, T, N) := Option.some.inj (h1.symm.trans hc)
  subst hr
  obtain ⟨hS, hfc, kC, hkC, hkind⟩ := hK.1.1 ci _ hc
  obtain ⟨cf, kf0, fi, f, hi, hsl⟩ := hS kf hk
  refine W.getf hx hb hown (hts _ hl) (by rw [← hC]; exact hi) (u_facts hfc hkC (u_lays hts hin hk) hi).1 q1 (by rw [q3]; exact fun h => by cases h) (v := v) ?_ rfl rfl hd (kk H locs ls hH hls)
  rw [hsl, q4 kf hk]
  simp [vp_V, hv]
theorem putf_ok (X : CX p s m args c D cA B0 nL cc own) {idx ci kf a : Nat} {fs : List Value} {v : Value} {ty : FieldType} {fin : Bool} (hF : FL own idx ci kf) (hT : FT ci kf ty fin) (hfin : fin = false ∨ (meth.name = "<init>" ∧ ∃ C T N, vwCl[ci]? = some (C, T, N) ∧ own = C))
    (hn : narrow ty v = v) (hfit : fits ty v = true) (hd : decode cc pc = .ok (.putfield idx, 3)) (ha : h a = some (ci, fs)) (hl0 : kf < fs.length)
    (kk : WS p la e R s m args below meth c Q D cA B0 nL (pc + 3) l r (hup h a (ci, fs.set kf v)) k n) : WS p la e R s m args below meth c Q D cA B0 nL pc l (v :: .ref a :: r) h k n := by
  obtain ⟨hx, hb, hml, hown, hts, hK, hB⟩ := X
  obtain ⟨C, T, N, ty0, hc, hin, hk, hl, hC, hty, hnm⟩ := hF
  obtain ⟨C', T', N', hc', hdt, hfn⟩ := hT
  cases hc.symm.trans hc'
  intro H locs ls hH hls
  obtain ⟨r0, h1, h2, cell, q1, q2, q3, q4⟩ := (hH.1 a _ ha).2.1 (vwCl_lt hc)
  have hr : r0 = (C, T, N) := Option.some.inj (h1.symm.trans hc)
  subst hr
  have hap := va_apart (own := own) hts hin ty0 hty hnm hK.1 hc
  obtain ⟨hS, hfc, kC, hkC, hkind⟩ := hK.1.1 ci _ hc
  obtain ⟨cf, kf0, fi, f, hi, hsl⟩ := hS kf hk
  have hlay := hts _ (hin _ (u_in_lay hk))
  have hst := (u_facts hfc hkC (u_lays hts hin hk) hi).1
  have fin' : ∀ (H1 : Heap), H1[a]? = some (cell.setSlot f.slot v) → H1.size = H.size → (∀ q, q ≠ a → H1[q]? = H[q]?) → W p la e R s m args below meth c H1 (locs ++ [⟨a, f.slot⟩]) k n Q (F0 m (pc + 3) ls r) := by
    intro H1 e1 e2 e3
    rw [hsl] at e1 ⊢
    refine kk H1 _ ls ⟨hH.1.put ha ⟨fun _ => ⟨_, hc, by simpa using h2, t_OB.to (V := updV (vp_V fs) kf v) ⟨_, e1, q2, q3, t_set q4 hap hk v⟩ (fun j _ => vp_updV_set hl0 v j)⟩, fun z => absurd (vwCl_lt hc) z⟩ e3, hH.2.put e2 e3 (hH.1 a _ ha).1⟩ hls
  unfold u_lay at hlay
  cases fin with
  | false =>
    rw [if_neg (by rw [hfn]; decide)] at hlay
    have h6 := u_store hfc hkC hkind hlay hi hdt hn hfit
    exact W.putK hx hb (f := f) ⟨hown, hts _ hl, ⟨_, _, _, by rw [← hC]; exact hi⟩, hst⟩ (by rw [q2]; exact h6) q1 q3 (by rw [hsl]; exact k2_hasslot (q4 kf hk)) rfl rfl hd fin'
  | true =>
    obtain ⟨hin2, C9, T9, N9, hc9, hown9⟩ := hfin.resolve_left (by decide)
    cases hc.symm.trans hc9
    rw [if_pos hfn] at hlay
    have hcf : m.cls = cf := by
      obtain ⟨_, _, c', _, _, _, -, -, hf', -, -, -, hown2, -⟩ := Cond.laysFinal_spec hlay
      have e1 : c' = cf := by have := hi.symm.trans hf'; simp at this; exact this.1.symm
      rw [hC, ← hown9] at hown2
      rw [← e1]; exact Option.some.inj (hown.symm.trans hown2)
    have h6 := u_fits hfc hkC hkind (Or.inr hlay) hi hdt hn hfit
    exact W.putFinK hx hb hown (hts _ hl) (by rw [← hC]; exact hi) hst hcf hin2 (by rw [q2]; exact h6) q1 q3 (by rw [hsl]; exact k2_hasslot (q4 kf hk)) rfl rfl hd fin'
end OPS
