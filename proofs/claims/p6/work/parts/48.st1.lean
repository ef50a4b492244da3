/-! the reference's steps: what they do, and deep, isWithin, bind -/
abbrev SM : Type := List (Option (List Nat))
def deepF : Nat → SM → List Nat → Option (List Nat)
  | 0, _, _ => none
  | f + 1, sm, t => match t with
    | [x] => if x < 10 then (match sm.getD x none with
      | some t' => deepF f sm t'
      | none => some t) else some t
    | t => some t
def wStep (sm : SM) (set k : Nat) : Nat := if set >>> k % 2 = 1 then (match sm.getD k none with
  | some t => set ||| namesN t
  | none => set) else set
def wRow (sm : SM) (set : Nat) : Nat → Nat
  | 0 => set
  | k + 1 => wStep sm (wRow sm set k) k
def wAll (sm : SM) (set : Nat) : Nat → Nat
  | 0 => set
  | t + 1 => wRow sm (wAll sm set t) 8
def isWi (sm : SM) (x : Nat) (t : List Nat) : Bool := decide (wAll sm (namesN t) 8 >>> x % 2 = 1)
/-- sm, many, why, cells, slots -/
abbrev GS : Type := SM × Nat × Nat × Nat × Nat
def bindF (sm : SM) (m w x : Nat) (t : List Nat) : GS := if isWi sm x t then (sm, m, 2, 0, 0) else (sm.set x (some t), m, w, 0, 0)
def goOnF (go : List Nat → List Nat → SM → Nat → Nat → Option GS) : Nat → List Nat → List Nat → Nat → Nat → SM → Nat → Nat → Option GS
  | 0, _, _, _, _, sm, m, w => some (sm, m, w, 0, 0)
  | k + 1, a, b, i, j, sm, m, w => match go (sub' a i) (sub' b j) sm m w with
    | none => none
    | some (sm1, m1, w1, c1, n1) => match goOnF go k a b (i + tl a i) (j + tl b j) sm1 m1 w1 with
      | none => none
      | some (sm2, m2, w2, c2, n2) => some (sm2, m2, w2, 2 + c1 + c2, tl a i + tl b j + n1 + n2)
def goF : Nat → List Nat → List Nat → SM → Nat → Nat → Option GS
  | 0, _, _, _, _, _ => none
  | f + 1, one, other, sm, m, w => if 0 < w then some (sm, m, w, 0, 0) else match deepF 9 sm one, deepF 9 sm other with
    | some (x :: a), some (y :: b) =>
      if x < 10 then (if y < 10 then some (if x = y then sm else sm.set (max x y) (some (if x < y then x :: a else y :: b)), m + 1, w, 0, 0) else some (bindF sm (m + 1) w x (y :: b)))
      else if y < 10 then some (bindF sm (m + 1) w y (x :: a))
      else if x = y then goOnF (goF f) (pF x) (x :: a) (y :: b) 1 1 sm (m + 1) w else some (sm, m + 1, 1, 0, 0)
    | _, _ => none
theorem namesN_lt {xs : List Nat} (h : ∀ x ∈ xs, okL x) : namesN xs < 256 := by
  have key : ∀ (xs : List Nat) (b : Nat), b < 2 ^ 8 → (∀ x ∈ xs, okL x) → xs.foldl (fun m x => if x < 10 then m ||| 2 ^ x else m) b < 2 ^ 8 := by
    intro xs
    induction xs with
    | nil => intro b hb _; exact hb
    | cons x r ih =>
      intro b hb hx
      rw [List.foldl_cons]
      refine ih _ ?_ (fun y hy => hx y (List.mem_cons_of_mem _ hy))
      split
      · have := hx x List.mem_cons_self
        refine Nat.or_lt_two_pow hb (Nat.pow_lt_pow_right (by omega) ?_)
        rcases this with q | q <;> omega
      · exact hb
  exact key xs 0 (by decide) h
theorem TT.get {sm : SM} (h : TT sm) {x : Nat} {t : List Nat} (e : sm.getD x none = some t) : TW t ∧ t.length ≤ 16 := by
  refine h.2 t ?_
  rw [List.getD_eq_getElem?_getD] at e
  cases hz : sm[x]? with
  | none => rw [hz] at e; cases e
  | some o => rw [hz] at e; cases e; exact List.mem_of_getElem? hz
theorem wStep_lt {sm : SM} (h : TT sm) {set k : Nat} (hs : set < 256) : wStep sm set k < 256 := by
  unfold wStep
  split
  · split
    · rename_i t ht
      exact Nat.or_lt_two_pow (n := 8) hs (namesN_lt (h.get ht).1.2)
    · exact hs
  · exact hs
theorem wRow_lt {sm : SM} (h : TT sm) {set : Nat} (hs : set < 256) : ∀ k, wRow sm set k < 256
  | 0 => hs
  | k + 1 => wStep_lt h (wRow_lt h hs k)
theorem wAll_lt {sm : SM} (h : TT sm) {set : Nat} (hs : set < 256) : ∀ k, wAll sm set k < 256
  | 0 => hs
  | k + 1 => wRow_lt h (wAll_lt h hs k) 8
theorem deepF_TW {sm : SM} (h : TT sm) : ∀ (f : Nat) {t r : List Nat}, TW t ∧ t.length ≤ 16 → deepF f sm t = some r → TW r ∧ r.length ≤ 16
  | 0, t, r, ht, e => by simp [deepF] at e
  | f + 1, t, r, ht, e => by
    unfold deepF at e
    split at e
    · split at e
      · split at e
        · rename_i t' ht'
          exact deepF_TW h f (h.get ht') e
        · cases e; exact ht
      · cases e; exact ht
    · cases e; exact ht
/-- the object of steps: o9, what names stand for in St -/
def SI (h : AH) (o9 St : Nat) (sm : SM) (m w : Nat) : Prop := h o9 = some (11, [.ref St, vI m, vI w]) ∧ TO h St sm ∧ TT sm ∧ w ≤ 2
/-- outside it all stays -/
def Fs (o9 St : Nat) (h h' : AH) : Prop := ∀ (b : Nat) (c : AC), b ≠ o9 → b ≠ St → h b = some c → h' b = some c
theorem Fs.rf {o9 St : Nat} (h : AH) : Fs o9 St h h := fun _ _ _ _ e => e
theorem Fs.trans {o9 St : Nat} {h h1 h2 : AH} (a : Fs o9 St h h1) (b : Fs o9 St h1 h2) : Fs o9 St h h2 := fun x c q1 q2 e => b x c q1 q2 (a x c q1 q2 e)
theorem Fs.ext {o9 St : Nat} {h h' : AH} (a : Ext h h') : Fs o9 St h h' := fun x c _ _ e => a x c e
theorem Fs.set {o9 St : Nat} {h h' : AH} (a : Fs o9 St h h') {q : Nat} (hq : q = o9 ∨ q = St) (c : AC) : Fs o9 St h (hup h' q c) := fun x c' q1 q2 e => by
  rw [hup_ne _ _ (by rcases hq with rfl | rfl <;> assumption)]
  exact a x c' q1 q2 e
theorem SI.st {h : AH} {o9 St : Nat} {sm : SM} {m w : Nat} (M : SI h o9 St sm m w) : ∃ vs, h St = some (105, vs) := ⟨_, M.2.1.choose_spec.2.2.1⟩
theorem SI.ext {h h' : AH} {o9 St : Nat} {sm : SM} {m w : Nat} (M : SI h o9 St sm m w) (E : Ext h h') : SI h' o9 St sm m w := ⟨E _ _ M.1, M.2.1.ext E, M.2.2⟩
theorem SI.fld {h : AH} {o9 St : Nat} {sm : SM} {m w : Nat} (M : SI h o9 St sm m w) (m' w' : Nat) (hw : w' ≤ 2) : SI (hup h o9 (11, [.ref St, vI m', vI w'])) o9 St sm m' w' := by
  obtain ⟨m1, ⟨os, t1, t2, t3, t4, t5⟩, m3, -⟩ := M
  refine ⟨hup_self _ _ _, ⟨os, t1, t2, by rw [hup_ne _ _ (k_ne t3 m1 (by decide))]; exact t3, fun k r hk => ?_, t5⟩, m3, hw⟩
  obtain ⟨a, e1, e2⟩ := t4 k r hk
  exact ⟨a, e1, by rw [hup_ne _ _ (k_ne e2 m1 (by decide))]; exact e2⟩
theorem IA_fs {h h' : AH} {o9 St : Nat} {sm : SM} {m w : Nat} (M : SI h o9 St sm m w) (F : Fs o9 St h h') {b : Nat} {x : List Nat} (hb : h b = some (IA x)) : h' b = some (IA x) := by
  obtain ⟨vs, hv⟩ := M.st
  exact F b _ (k_ne hb M.1 (by decide)) (k_ne hb hv (by decide)) hb
/-- what stands for a name -/
theorem TO.get {h : AH} {St : Nat} {sm : SM} (H : TO h St sm) {x : Nat} (hx : x < 8) : ∃ (os : List (Option Nat)) (o : Option Nat), h St = some (105, os.map va_rf) ∧ os.length = 8 ∧ os[x]? = some o ∧
    ((o = none ∧ sm.getD x none = none) ∨ ∃ a t, o = some a ∧ sm.getD x none = some t ∧ h a = some (IA t)) := by
  obtain ⟨os, t1, t2, t3, t4, t5⟩ := H
  obtain ⟨w, hw⟩ : ∃ w, sm[x]? = some w := ⟨sm[x]'(by omega), by simp⟩
  have e : sm.getD x none = w := by rw [List.getD_eq_getElem?_getD, hw]; rfl
  cases w with
  | none => exact ⟨os, none, t3, t1, t5 x hw, Or.inl ⟨rfl, e⟩⟩
  | some t =>
    obtain ⟨a, e1, e2⟩ := t4 x t hw
    exact ⟨os, some a, t3, t1, e1, Or.inr ⟨a, t, rfl, e, e2⟩⟩
section M48
variable {la : Launch} {D : va_G} {cA : Nat → ClassId} {B0 pa : Nat} {o9 St : Nat} {sm : SM} {mm ww : Nat}
set_option maxHeartbeats 8000000 in
theorem c_deep (h : AH) (M : SI h o9 St sm mm ww) {u f : Nat} {t r : List Nat} (hu : h u = some (IA t)) (ht : TW t ∧ t.length ≤ 16) (hf : deepF f sm t = some r) : CT la D cA B0 pa yX9_deep cX9_deep 3 (some (.array .int)) (rmD 0 0 0) [.ref o9, .ref u] h (fun v h' => (∃ q, v = some (.ref q) ∧ h q = some (IA r)) ∧ h' = h) := by
  refine CT_of (by decide +kernel) (Nat.le_of_ble_eq_true rfl) ?_
  intro p e s m args below meth c X E hr hlk hnm
  have dk : ∀ {pc : Nat} {q : Instr × Nat}, lkd DX9_deep pc = some q → decode cX9_deep pc = .ok q := lkd_ok DX9_deep_ok
  have loop : ∀ (f : Nat) (t : List Nat) (u : Nat) (l : List (Nat × Value)), lsel l [2, 0] = [(2, .ref u), (0, .ref o9)] → h u = some (IA t) → TW t ∧ t.length ≤ 16 → deepF f sm t = some r → WR p la e (rmD 0 0 0) s m args below meth c D cA B0 3 (fun v h' => (∃ q, v = some (.ref q) ∧ h q = some (IA r)) ∧ h' = h) 2 l [] h 0 0 := by
    intro f
    induction f with
    | zero => intro t u l hl hu ht hf; simp [deepF] at hf
    | succ f ih =>
      intro t u l hl hu ht hf
      have fin9 : r = t → ∀ l : List (Nat × Value), lsel l [2] = [(2, .ref u)] → WR p la e (rmD 0 0 0) s m args below meth c D cA B0 3 (fun v h' => (∃ q, v = some (.ref q) ∧ h q = some (IA r)) ∧ h' = h) 39 l [] h 0 0 := by
        intro hrt l hl
        subst hrt
        refine WS.sel [2] hl ?_
        repeat refine fst1_ok X (dk rfl) rfl ?_
        exact reta_ok X hr hlk (Or.inr ⟨_, rfl⟩) (Or.inr ⟨_, rfl⟩) (dk rfl) ⟨⟨u, rfl, hu⟩, rfl⟩ (Nat.le_refl _) (Nat.le_refl _)
      have lt' : (t.map vI).length = t.length := List.length_map _
      obtain ⟨x, hx⟩ : ∃ x, t[0]? = some x := ⟨t[0]'ht.1.pos, by simp⟩
      have hxo := ht.1.2 x (List.mem_of_getElem? hx)
      have hx18 := hxo.lt
      refine WS.sel [2, 0] hl ?_
      refine fst1_ok X (dk rfl) rfl ?_
      refine alen_ok X (by decide) (dk rfl) hu ?_
      rw [lt']
      repeat refine fst1_ok X (dk rfl) rfl ?_
      refine br_ok X (dk rfl) rfl (show ((5 : Nat) : Int) + 34 = ((39 : Nat) : Int) from rfl) (fun c1 => ?_) (fun c1 => ?_)
      · refine fin9 ?_ _ rfl
        have hne : t.length ≠ 1 := fun z => c1 (by rw [z]; rfl)
        unfold deepF at hf
        split at hf
        · exact absurd rfl hne
        · exact (Option.some.inj hf).symm
      · have h1 : t.length = 1 := (nI_eq (by omega) (by omega)).mp (by have := Decidable.not_not.mp c1; rw [nI_1'] at this; exact this)
        obtain ⟨y, rfl⟩ := List.length_eq_one_iff.mp h1
        cases hx
        unfold deepF at hf
        dsimp only at hf
        repeat refine fst1_ok X (dk rfl) rfl ?_
        refine ald_ok X (Or.inl ⟨rfl, rfl⟩) (dk rfl) hu (inA_nI (j := 0) (by omega) (IA_get rfl)) ?_
        refine fst1_ok X (dk rfl) rfl ?_
        refine br_ok X (dk rfl) rfl (show ((13 : Nat) : Int) + 26 = ((39 : Nat) : Int) from rfl) (fun c2 => ?_) (fun c2 => ?_)
        · rw [nI_10] at c2
          have hx10 : 10 ≤ x := nI_ge' (by omega) (by omega) c2
          rw [if_neg (by omega)] at hf
          exact fin9 (Option.some.inj hf).symm _ rfl
        · rw [nI_10] at c2
          have hx10 : x < 10 := nI_lt' (by omega) (by omega) c2
          have hx8 : x < 8 := by rcases hxo with q | q <;> omega
          rw [if_pos hx10] at hf
          obtain ⟨os, ov, t1, t2, t3, t4⟩ := M.2.1.get hx8
          refine fst1_ok X (dk rfl) rfl ?_
          refine getf_ok X flX9_11 (dk rfl) M.1 rfl ?_
          repeat refine fst1_ok X (dk rfl) rfl ?_
          refine ald_ok X (Or.inl ⟨rfl, rfl⟩) (dk rfl) hu (inA_nI (j := 0) (by omega) (IA_get rfl)) ?_
          refine ald_ok X (Or.inr (Or.inr ⟨rfl, by decide⟩)) (dk rfl) t1 (inA_nI (v := va_rf ov) (by omega) (by rw [List.getElem?_map, t3]; rfl)) ?_
          rcases t4 with ⟨rfl, e1⟩ | ⟨b, t', rfl, e1, e2⟩
          · rw [e1] at hf
            refine br_ok X (dk rfl) rfl (show ((24 : Nat) : Int) + 15 = ((39 : Nat) : Int) from rfl) (fun _ => ?_) (fun c3 => absurd trivial c3)
            exact fin9 (Option.some.inj hf).symm _ rfl
          · rw [e1] at hf
            refine br_ok X (dk rfl) rfl (show ((24 : Nat) : Int) + 15 = ((39 : Nat) : Int) from rfl) (fun c3 => absurd c3 (fun z => z)) (fun _ => ?_)
            refine fst1_ok X (dk rfl) rfl ?_
            refine getf_ok X flX9_11 (dk rfl) M.1 rfl ?_
            repeat refine fst1_ok X (dk rfl) rfl ?_
            refine ald_ok X (Or.inl ⟨rfl, rfl⟩) (dk rfl) hu (inA_nI (j := 0) (by omega) (IA_get rfl)) ?_
            refine ald_ok X (Or.inr (Or.inr ⟨rfl, by decide⟩)) (dk rfl) t1 (inA_nI (v := .ref b) (by omega) (by rw [List.getElem?_map, t3]; rfl)) ?_
            repeat refine fst1_ok X (dk rfl) rfl ?_
            refine br_ok X (dk rfl) rfl (show ((36 : Nat) : Int) + (-34) = ((2 : Nat) : Int) from rfl) (fun _ => ?_) (fun q => absurd trivial q)
            exact ih t' b _ rfl e2 (M.2.2.1.get e1) hf
  iterate 2 refine fst1_ok X (dk rfl) rfl ?_
  exact loop f t u _ rfl hu ht hf
end M48
