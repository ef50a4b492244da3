section U43h4
/-! shift, tell, behind -/
/-- a row, mapped up to a place -/
def mixL (f : Nat → Nat) (xs : List Nat) (j : Nat) : List Nat := (xs.take j).map f ++ xs.drop j
theorem mix_len {f : Nat → Nat} {xs : List Nat} {j : Nat} (h : j ≤ xs.length) : (mixL f xs j).length = xs.length := by
  unfold mixL
  rw [List.length_append, List.length_map, List.length_take, List.length_drop]
  omega
theorem mix_get {f : Nat → Nat} {xs : List Nat} {j x : Nat} (h : xs[j]? = some x) : (mixL f xs j)[j]? = some x := by
  have hj := (List.getElem?_eq_some_iff.mp h).1
  unfold mixL
  rw [List.getElem?_append_right (by rw [List.length_map, List.length_take]; omega), List.length_map, List.length_take, Nat.min_eq_left (by omega), Nat.sub_self, List.getElem?_drop, Nat.add_zero]
  exact h
theorem mix_succ {f : Nat → Nat} {xs : List Nat} {j x : Nat} (h : xs[j]? = some x) : mixL f xs (j + 1) = (xs.take j).map f ++ f x :: xs.drop (j + 1) := by
  unfold mixL
  rw [List.take_add_one, h]
  simp
theorem mix_set {f : Nat → Nat} {xs : List Nat} {j x : Nat} (h : xs[j]? = some x) : (mixL f xs j).set j (f x) = mixL f xs (j + 1) := by
  have hj := (List.getElem?_eq_some_iff.mp h).1
  rw [mix_succ h]
  unfold mixL
  rw [drop_cons h, List.set_append_right _ _ (by rw [List.length_map, List.length_take]; omega), List.length_map, List.length_take, Nat.min_eq_left (by omega), Nat.sub_self]
  rfl
theorem mix_same {f : Nat → Nat} {xs : List Nat} {j x : Nat} (h : xs[j]? = some x) (hf : f x = x) : mixL f xs j = mixL f xs (j + 1) := by
  rw [mix_succ h, hf]
  unfold mixL
  rw [drop_cons h]
theorem rem8 {x : Nat} (h : x < 100) : nI x - nI x / (Int8.ofInt 8).toInt32 * (Int8.ofInt 8).toInt32 = nI (x % 8) := by
  have : ∀ x : Nat, x < 100 → nI x - nI x / (Int8.ofInt 8).toInt32 * (Int8.ofInt 8).toInt32 = nI (x % 8) := by decide +kernel
  exact this x h
section M39
variable {la : Launch} {D : va_G} {cA : Nat → ClassId} {B0 pa : Nat} {o S A : Nat} {sl : List (List Nat)} {an : List (List (List Nat))} {a r kn th : Int32}
end M39
end U43h4
section U44h5
/-! what is asked of the reference -/
theorem inN_le {x : Int32} {K : Nat} (hK : K < 2 ^ 20) (h1 : ¬ x < 0) (h2 : x ≤ nI K) : inN (K + 1) x := by
  obtain ⟨j, hj, rfl⟩ := nI_of h1
  exact ⟨j, by have := (nI_leI hj (by omega)).mp h2; omega, rfl⟩
theorem ite_bI (c : Prop) [Decidable c] : (if c then (1 : Int32) else 0) = bI (decide c) := by
  by_cases h : c
  · rw [if_pos h, decide_eq_true h]; decide
  · rw [if_neg h, decide_eq_false h]; decide
section M39
variable {la : Launch} {D : va_G} {cA : Nat → ClassId} {B0 pa : Nat} {o S A : Nat} {sl : List (List Nat)} {an : List (List (List Nat))} {a r kn th : Int32}
set_option maxHeartbeats 4000000 in
theorem c_sharedOf_ (h : AH) {q : Nat} {x : List Nat} (hq : h q = some (IA x)) (hx : TW x ∧ x.length ≤ 16) : CT la D cA B0 pa yX10_sharedOf_ cX10_sharedOf_ 1 (some .int) (rmD 5 1 1) [.ref q] h (fun v h' => (∃ w : Int32, v = some (.int w)) ∧ Ext h h') := by
  refine CT_of (by decide +kernel) (Nat.le_of_ble_eq_true rfl) ?_
  intro p e s m args below meth c X E hr hlk hnm
  have dk : ∀ {pc : Nat} {q : Instr × Nat}, lkd DX10_sharedOf_ pc = some q → decode cX10_sharedOf_ pc = .ok q := lkd_ok DX10_sharedOf__ok
  refine fst1_ok X (dk rfl) rfl ?_
  refine newR_ok (N := 1) (kd := 105) X E (by decide) cl10_9 (by decide) (dk rfl) (by decide) (by decide) (fun T hT hBT => ?_)
  have hqT : q ≠ T := fun z => by rw [z, hT] at hq; cases hq
  repeat refine fst1_ok X (dk rfl) rfl ?_
  refine str_ok (j := 0) X (dk rfl) (hup_self _ _ _) (by rw [hup_ne _ _ hqT]; exact hq) (by simp) (by simp) ?_
  rw [hup_hup]
  have hA : Ans (hup h T (105, (List.replicate 1 Value.null).set 0 (.ref q))) T [x] := by
    refine ⟨[q], rfl, hup_self _ _ _, fun k a r e1 e2 => ?_⟩
    cases k with
    | zero => cases e1; cases e2; rw [hup_ne _ _ hqT]; exact hq
    | succ k => simp at e1
  refine callS_ok (av := [.ref T]) (r := []) X E (c_sharedOf _ hA ⟨by simp, fun r hr => by simp at hr; rw [hr]; exact hx⟩) lkX10_sharedOf mlX10_199 lsX10_sharedOf ⟨Nat.le_of_ble_eq_true rfl, Nat.le_of_ble_eq_true rfl⟩ ⟨Nat.le_of_ble_eq_true rfl, Nat.le_of_ble_eq_true rfl⟩ (Nat.le_of_ble_eq_true rfl) (dk rfl) ?_
  rintro v h2 ⟨⟨w, rfl⟩, rfl⟩
  exact reti_ok X hr hlk rfl (dk rfl) ⟨⟨_, rfl⟩, Ext.new hT _⟩ (Nat.le_of_ble_eq_true rfl) (Nat.le_of_ble_eq_true rfl)
end M39
end U44h5
section U45h6
/-! is, makes, isSo, told, knock, isSound, added, house -/
theorem cs10_224 : Cond.constantLong RX10 224 31 ∈ WT := WT_of (tbw_8 (List.mem_of_getElem? (i := 44) rfl)) rfl
section M39
variable {la : Launch} {D : va_G} {cA : Nat → ClassId} {B0 pa : Nat} {o S A : Nat} {sl : List (List Nat)} {an : List (List (List Nat))} {a r kn th : Int32}
theorem c_add (h : AH) (d v : Int64) : CT la D cA B0 pa yX10_add cX10_add 4 (some .long) (rmD 0 0 0) [.long d, .long v] h (fun w h' => w = some (.long (d * 31 + v)) ∧ h' = h) := by
  refine CT_of (by decide +kernel) (Nat.le_of_ble_eq_true rfl) ?_
  intro p e s m args below meth c X E hr hlk hnm
  have dk : ∀ {pc : Nat} {q : Instr × Nat}, lkd DX10_add pc = some q → decode cX10_add pc = .ok q := lkd_ok DX10_add_ok
  repeat refine fst1_ok X (dk rfl) rfl ?_
  refine ldc2_ok X cs10_224 (dk rfl) ?_
  repeat refine fst1_ok X (dk rfl) rfl ?_
  exact retl_ok X hr hlk (dk rfl) ⟨rfl, rfl⟩ (Nat.le_refl _) (Nat.le_refl _)
set_option maxHeartbeats 4000000 in
theorem c_added (h : AH) (d0 : Int64) {q : Nat} {x : List Nat} (hq : h q = some (IA x)) (hn : x.length < 2 ^ 9) : CT la D cA B0 pa yX10_added cX10_added 9 (some .long) (rmD 1 0 0) [.long d0, .ref q] h (fun w h' => (∃ z : Int64, w = some (.long z)) ∧ h' = h) := by
  refine CT_of (by decide +kernel) (Nat.le_of_ble_eq_true rfl) ?_
  intro p e s m args below meth c X E hr hlk hnm
  have dk : ∀ {pc : Nat} {q : Instr × Nat}, lkd DX10_added pc = some q → decode cX10_added pc = .ok q := lkd_ok DX10_added_ok
  have lx : (x.map vI).length = x.length := List.length_map _
  have loop : ∀ (d i : Nat), d = x.length - i → i ≤ x.length → ∀ (z : Int64) (l : List (Nat × Value)), lsel l [7, 6, 5, 3] = [(7, vI i), (6, vI x.length), (5, .ref q), (3, .long z)] → WR p la e (rmD 1 0 0) s m args below meth c D cA B0 9 (fun w h' => (∃ z : Int64, w = some (.long z)) ∧ h' = h) 13 l [] h 0 0 := by
    intro d
    induction d with
    | zero =>
      intro i hd hi z l hl
      have hi2 : i = x.length := by omega
      subst hi2
      refine WS.sel [7, 6, 5, 3] hl ?_
      repeat refine fst1_ok X (dk rfl) rfl ?_
      refine br_ok X (dk rfl) rfl (show ((17 : Nat) : Int) + 24 = ((41 : Nat) : Int) from rfl) (fun _ => ?_) (fun c1 => absurd (Int32.le_refl _) c1)
      repeat refine fst1_ok X (dk rfl) rfl ?_
      exact retl_ok X hr hlk (dk rfl) ⟨⟨_, rfl⟩, rfl⟩ (Nat.le_refl _) (Nat.le_refl _)
    | succ d ih =>
      intro i hd hi z l hl
      obtain ⟨y, hy⟩ : ∃ y, x[i]? = some y := ⟨x[i]'(by omega), by simp⟩
      have f2 : Value.int (nI i + Int32.ofInt 1) = vI (i + 1) := congrArg Value.int (by rw [nI_1', nI_add])
      refine WS.sel [7, 6, 5, 3] hl ?_
      repeat refine fst1_ok X (dk rfl) rfl ?_
      refine br_ok X (dk rfl) rfl (show ((17 : Nat) : Int) + 24 = ((41 : Nat) : Int) from rfl) (fun c1 => absurd c1 (nI_ge (by omega) (by omega))) (fun _ => ?_)
      repeat refine fst1_ok X (dk rfl) rfl ?_
      refine ald_ok X (Or.inl ⟨rfl, rfl⟩) (dk rfl) hq (inA_nI (by omega) (IA_get hy)) ?_
      repeat refine fst1_ok X (dk rfl) rfl ?_
      refine callS_ok (av := [.long z, .long (nI y).toInt64]) (r := []) X E (c_add h z (nI y).toInt64) lkX10_add mlX10_226 lsX10_add ⟨Nat.le_of_ble_eq_true rfl, Nat.le_of_ble_eq_true rfl⟩ ⟨Nat.le_of_ble_eq_true rfl, Nat.le_of_ble_eq_true rfl⟩ (Nat.le_of_ble_eq_true rfl) (dk rfl) ?_
      rintro v h' ⟨rfl, rfl⟩
      generalize z * 31 + (nI y).toInt64 = w
      repeat refine fst1_ok X (dk rfl) rfl ?_
      refine br_ok X (dk rfl) rfl (show ((38 : Nat) : Int) + (-25) = ((13 : Nat) : Int) from rfl) (fun _ => ?_) (fun q => absurd trivial q)
      refine WS.sel (l' := [(7, vI (i + 1)), (6, vI x.length), (5, .ref q), (3, .long w)]) [7, 6, 5, 3] (by rw [← f2]; rfl) ?_
      exact ih (i + 1) (by omega) (by omega) _ _ rfl
  iterate 5 refine fst1_ok X (dk rfl) rfl ?_
  refine alen_ok X (by decide) (dk rfl) hq ?_
  rw [lx]
  iterate 3 refine fst1_ok X (dk rfl) rfl ?_
  exact loop _ 0 rfl (Nat.zero_le _) _ _ rfl
end M39
end U45h6
section U46h7
/-! head, weight -/
theorem get3 {j1 j2 j3 n : Nat} (h1 : j1 < n) (h2 : j2 < n) (h3 : j3 < n) : ∀ i, i < 3 → ∃ j, [j1, j2, j3][i]? = some j ∧ j < n
  | 0, _ => ⟨j1, rfl, h1⟩
  | 1, _ => ⟨j2, rfl, h2⟩
  | 2, _ => ⟨j3, rfl, h3⟩
  | i + 3, h => by omega
/-- how many of the first places of a set are in it -/
def cntN (m : Nat) : Nat → Nat
  | 0 => 0
  | k + 1 => cntN m k + m >>> k % 2
theorem cnt_bc {m : Nat} (h : m < 256) : bcF (nI m) = nI (cntN m 8) ∧ cntN m 8 ≤ 8 := by
  have : ∀ m : Nat, m < 256 → bcF (nI m) = nI (cntN m 8) ∧ cntN m 8 ≤ 8 := by decide +kernel
  exact this m h
theorem bit8 {m k : Nat} (h : m < 256) (hk : k < 8) : (nI m >>> (nI k &&& 31)) &&& Int32.ofInt 1 = nI (m >>> k % 2) := by
  have : ∀ k : Nat, k < 8 → ∀ m : Nat, m < 256 → (nI m >>> (nI k &&& 31)) &&& Int32.ofInt 1 = nI (m >>> k % 2) := by decide +kernel
  exact this k hk m h
theorem movedN_lt (rows : List (List Nat)) : ∀ k : Nat, movedN rows k < 2 ^ k
  | 0 => by simp [movedN]
  | k + 1 => by
    have ih := movedN_lt rows k
    unfold movedN
    split
    · rw [Nat.pow_succ]; omega
    · exact Nat.or_lt_two_pow (by rw [Nat.pow_succ]; omega) (Nat.pow_lt_pow_right (by omega) (by omega))
theorem cnt_mono (m : Nat) {a : Nat} : ∀ {b : Nat}, a ≤ b → cntN m a ≤ cntN m b
  | 0, h => by rw [show a = 0 by omega]; exact Nat.le_refl _
  | b + 1, h => by
    by_cases e : a = b + 1
    · rw [e]; exact Nat.le_refl _
    · have := cnt_mono m (a := a) (b := b) (by omega)
      show cntN m a ≤ cntN m b + m >>> b % 2
      omega
section M39
variable {la : Launch} {D : va_G} {cA : Nat → ClassId} {B0 pa : Nat} {o S A : Nat} {sl : List (List Nat)} {an : List (List (List Nat))} {a r kn th : Int32}
end M39
end U46h7
section U47nest
/-! calls of private static methods of the nest's host -/
section NEST
variable {p : Program} {la : Launch} {e : Env} {R : Room} {s : State} {m : MethodId} {args : Array Value} {below : List Frame} {meth : Method} {c : Code} {Q : State → Prop}
variable {D : va_G} {cA : Nat → ClassId} {B0 pa nL : Nat} {cc : ByteArray} {own : String} {pc k n : Nat} {l : List (Nat × Value)} {r : List Value} {h : AH}
theorem callSN_ok (X : CX p s m args c D cA B0 nL cc own) (E : EN D cA B0 pa s) {y : MethodName} {host : String} {bytes : ByteArray} {maxL idx : Nat} {ret : Option FieldType} {rm : Room} {av : List Value} {post : Option Value → AH → Prop}
    (hM : CT la D cA B0 pa y bytes maxL ret rm av h post) (hL : LK y bytes maxL av.length ret) (hl : Cond.methodLinkNest own idx y host ∈ lw_tbl) (hs : Cond.static y ∈ WT) (hR : rm.frames + 1 ≤ R.frames ∧ 8 + (maxL + 11) + rm.locals ≤ R.locals) (hf : k + rm.cells ≤ R.cells ∧ n + rm.slots ≤ R.slots)
    (hW : (r.map fun v => v.category).sum ≤ 8) (hd : decode cc pc = .ok (.invokestatic idx, 3))
    (kk : ∀ (v : Option Value) (h' : AH), post v h' → WS p la e R s m args below meth c Q D cA B0 nL (pc + 3) l (v.toList ++ r) h' (k + rm.cells) (n + rm.slots)) : WS p la e R s m args below meth c Q D cA B0 nL pc l (av.reverse ++ r) h k n :=
  run_ok (idx := idx) X.2.2.2.2.2.2 (fun H locs ls hH hls => va_runSN (fix_ok X) hM ⟨va_cnB av.length X.2.2.2.2.1 (WT_goodIn y bytes maxL ret hL.1) rfl rfl rfl (E.2.1 _ hl rfl) (X.2.2.2.2.1 _ hL.2.1) ⟨hL.2.2.1.1, hL.2.2.1.2, hL.2.2.2⟩ hR, X.2.2.2.2.1 _ hs, trivial⟩ (preS_of X E hH av) rfl rfl hls.1 rfl (lv_room hW) hd hf) kk
end NEST
set_option maxRecDepth 100000 in
theorem mnX9_21 : Cond.methodLinkNest RX9 21 yX10_namesOf RX10 ∈ lw_tbl := tbw_7 (List.mem_of_getElem? (i := 46) rfl)
set_option maxRecDepth 100000 in
theorem mnX9_53 : Cond.methodLinkNest RX9 53 yX10_parts RX10 ∈ lw_tbl := tbw_7 (List.mem_of_getElem? (i := 51) rfl)
set_option maxRecDepth 100000 in
theorem mnX9_57 : Cond.methodLinkNest RX9 57 yX10_at RX10 ∈ lw_tbl := tbw_7 (List.mem_of_getElem? (i := 52) rfl)
set_option maxRecDepth 100000 in
theorem mnX9_61 : Cond.methodLinkNest RX9 61 yX10_end RX10 ∈ lw_tbl := tbw_7 (List.mem_of_getElem? (i := 53) rfl)
set_option maxRecDepth 100000 in
theorem mnX9_73 : Cond.methodLinkNest RX9 73 yX10_row RX10 ∈ lw_tbl := tbw_7 (List.mem_of_getElem? (i := 126) rfl)
set_option maxRecDepth 100000 in
theorem mnX9_65 : Cond.methodLinkNest RX9 65 yX10_piece RX10 ∈ lw_tbl := tbw_7 (List.mem_of_getElem? (i := 131) rfl)
set_option maxRecDepth 100000 in
theorem mnX9_69 : Cond.methodLinkNest RX9 69 yX10_joined RX10 ∈ lw_tbl := tbw_7 (List.mem_of_getElem? (i := 132) rfl)
set_option maxRecDepth 100000 in
theorem mnX8_27 : Cond.methodLinkNest RX8 27 yX10_at RX10 ∈ lw_tbl := tbw_7 (List.mem_of_getElem? (i := 73) rfl)
set_option maxRecDepth 100000 in
theorem mnX8_62 : Cond.methodLinkNest RX8 62 yX10_same RX10 ∈ lw_tbl := tbw_7 (List.mem_of_getElem? (i := 78) rfl)
set_option maxRecDepth 100000 in
theorem mnX8_39 : Cond.methodLinkNest RX8 39 yX10_parts RX10 ∈ lw_tbl := tbw_7 (List.mem_of_getElem? (i := 79) rfl)
set_option maxRecDepth 100000 in
theorem mnX8_58 : Cond.methodLinkNest RX8 58 yX10_isAt RX10 ∈ lw_tbl := tbw_7 (List.mem_of_getElem? (i := 84) rfl)
set_option maxRecDepth 100000 in
theorem mnX8_47 : Cond.methodLinkNest RX8 47 yX10_end RX10 ∈ lw_tbl := tbw_7 (List.mem_of_getElem? (i := 87) rfl)
set_option maxRecDepth 100000 in
theorem mnX8_90 : Cond.methodLinkNest RX8 90 yX10_none RX10 ∈ lw_tbl := tbw_7 (List.mem_of_getElem? (i := 137) rfl)
set_option maxRecDepth 100000 in
theorem mnX8_79 : Cond.methodLinkNest RX8 79 yX10_row RX10 ∈ lw_tbl := tbw_7 (List.mem_of_getElem? (i := 143) rfl)
set_option maxRecDepth 100000 in
theorem mnX8_86 : Cond.methodLinkNest RX8 86 yX10_joined RX10 ∈ lw_tbl := tbw_7 (List.mem_of_getElem? (i := 144) rfl)
end U47nest
section U48st1
/-! the reference's steps: what they do, and deep, isWithin, bind -/
abbrev SM : Type := List (Option (List Nat))
def deepF : Nat → SM → List Nat → Option (List Nat)
  | 0, _, _ => none
  | f + 1, sm, t => match t with
    | [x] => if x < 10 then (match sm.getD x none with
      | some t' => deepF f sm t'
      | none => some t) else some t
    | t => some t
def wStep (sm : SM) (set k : Nat) : Nat := if set >>> k % 2 = 1 then (match sm.getD k none with
  | some t => set ||| namesN t
  | none => set) else set
def wRow (sm : SM) (set : Nat) : Nat → Nat
  | 0 => set
  | k + 1 => wStep sm (wRow sm set k) k
def wAll (sm : SM) (set : Nat) : Nat → Nat
  | 0 => set
  | t + 1 => wRow sm (wAll sm set t) 8
def isWi (sm : SM) (x : Nat) (t : List Nat) : Bool := decide (wAll sm (namesN t) 8 >>> x % 2 = 1)
/-- sm, many, why, cells, slots -/
abbrev GS : Type := SM × Nat × Nat × Nat × Nat
def bindF (sm : SM) (m w x : Nat) (t : List Nat) : GS := if isWi sm x t then (sm, m, 2, 0, 0) else (sm.set x (some t), m, w, 0, 0)
def goOnF (go : List Nat → List Nat → SM → Nat → Nat → Option GS) : Nat → List Nat → List Nat → Nat → Nat → SM → Nat → Nat → Option GS
  | 0, _, _, _, _, sm, m, w => some (sm, m, w, 0, 0)
  | k + 1, a, b, i, j, sm, m, w => match go (sub' a i) (sub' b j) sm m w with
    | none => none
    | some (sm1, m1, w1, c1, n1) => match goOnF go k a b (i + tl a i) (j + tl b j) sm1 m1 w1 with
      | none => none
      | some (sm2, m2, w2, c2, n2) => some (sm2, m2, w2, 2 + c1 + c2, tl a i + tl b j + n1 + n2)
def goF : Nat → List Nat → List Nat → SM → Nat → Nat → Option GS
  | 0, _, _, _, _, _ => none
  | f + 1, one, other, sm, m, w => if 0 < w then some (sm, m, w, 0, 0) else match deepF 9 sm one, deepF 9 sm other with
    | some (x :: a), some (y :: b) =>
      if x < 10 then (if y < 10 then some (if x = y then sm else sm.set (max x y) (some (if x < y then x :: a else y :: b)), m + 1, w, 0, 0) else some (bindF sm (m + 1) w x (y :: b)))
      else if y < 10 then some (bindF sm (m + 1) w y (x :: a))
      else if x = y then goOnF (goF f) (pF x) (x :: a) (y :: b) 1 1 sm (m + 1) w else some (sm, m + 1, 1, 0, 0)
    | _, _ => none
theorem namesN_lt {xs : List Nat} (h : ∀ x ∈ xs, okL x) : namesN xs < 256 := by
  have key : ∀ (xs : List Nat) (b : Nat), b < 2 ^ 8 → (∀ x ∈ xs, okL x) → xs.foldl (fun m x => if x < 10 then m ||| 2 ^ x else m) b < 2 ^ 8 := by
    intro xs
    induction xs with
    | nil => intro b hb _; exact hb
    | cons x r ih =>
      intro b hb hx
      rw [List.foldl_cons]
      refine ih _ ?_ (fun y hy => hx y (List.mem_cons_of_mem _ hy))
      split
      · have := hx x List.mem_cons_self
        refine Nat.or_lt_two_pow hb (Nat.pow_lt_pow_right (by omega) ?_)
        rcases this with q | q <;> omega
      · exact hb
  exact key xs 0 (by decide) h
theorem TT.get {sm : SM} (h : TT sm) {x : Nat} {t : List Nat} (e : sm.getD x none = some t) : TW t ∧ t.length ≤ 16 := by
  refine h.2 t ?_
  rw [List.getD_eq_getElem?_getD] at e
  cases hz : sm[x]? with
  | none => rw [hz] at e; cases e
  | some o => rw [hz] at e; cases e; exact List.mem_of_getElem? hz
theorem wStep_lt {sm : SM} (h : TT sm) {set k : Nat} (hs : set < 256) : wStep sm set k < 256 := by
  unfold wStep
  split
  · split
    · rename_i t ht
      exact Nat.or_lt_two_pow (n := 8) hs (namesN_lt (h.get ht).1.2)
    · exact hs
  · exact hs
theorem wRow_lt {sm : SM} (h : TT sm) {set : Nat} (hs : set < 256) : ∀ k, wRow sm set k < 256
  | 0 => hs
  | k + 1 => wStep_lt h (wRow_lt h hs k)
theorem wAll_lt {sm : SM} (h : TT sm) {set : Nat} (hs : set < 256) : ∀ k, wAll sm set k < 256
  | 0 => hs
  | k + 1 => wRow_lt h (wAll_lt h hs k) 8
theorem deepF_TW {sm : SM} (h : TT sm) : ∀ (f : Nat) {t r : List Nat}, TW t ∧ t.length ≤ 16 → deepF f sm t = some r → TW r ∧ r.length ≤ 16
  | 0, t, r, ht, e => by simp [deepF] at e
  | f + 1, t, r, ht, e => by
    unfold deepF at e
    split at e
    · split at e
      · split at e
        · rename_i t' ht'
          exact deepF_TW h f (h.get ht') e
        · cases e; exact ht
      · cases e; exact ht
    · cases e; exact ht
/-- the object of steps: o9, what names stand for in St -/
def SI (h : AH) (o9 St : Nat) (sm : SM) (m w : Nat) : Prop := h o9 = some (11, [.ref St, vI m, vI w]) ∧ TO h St sm ∧ TT sm ∧ w ≤ 2
/-- outside it all stays -/
def Fs (o9 St : Nat) (h h' : AH) : Prop := ∀ (b : Nat) (c : AC), b ≠ o9 → b ≠ St → h b = some c → h' b = some c
theorem Fs.rf {o9 St : Nat} (h : AH) : Fs o9 St h h := fun _ _ _ _ e => e
theorem Fs.trans {o9 St : Nat} {h h1 h2 : AH} (a : Fs o9 St h h1) (b : Fs o9 St h1 h2) : Fs o9 St h h2 := fun x c q1 q2 e => b x c q1 q2 (a x c q1 q2 e)
theorem Fs.ext {o9 St : Nat} {h h' : AH} (a : Ext h h') : Fs o9 St h h' := fun x c _ _ e => a x c e
theorem Fs.set {o9 St : Nat} {h h' : AH} (a : Fs o9 St h h') {q : Nat} (hq : q = o9 ∨ q = St) (c : AC) : Fs o9 St h (hup h' q c) := fun x c' q1 q2 e => by
  rw [hup_ne _ _ (by rcases hq with rfl | rfl <;> assumption)]
  exact a x c' q1 q2 e
theorem SI.st {h : AH} {o9 St : Nat} {sm : SM} {m w : Nat} (M : SI h o9 St sm m w) : ∃ vs, h St = some (105, vs) := ⟨_, M.2.1.choose_spec.2.2.1⟩
theorem SI.ext {h h' : AH} {o9 St : Nat} {sm : SM} {m w : Nat} (M : SI h o9 St sm m w) (E : Ext h h') : SI h' o9 St sm m w := ⟨E _ _ M.1, M.2.1.ext E, M.2.2⟩
theorem SI.fld {h : AH} {o9 St : Nat} {sm : SM} {m w : Nat} (M : SI h o9 St sm m w) (m' w' : Nat) (hw : w' ≤ 2) : SI (hup h o9 (11, [.ref St, vI m', vI w'])) o9 St sm m' w' := by
  obtain ⟨m1, ⟨os, t1, t2, t3, t4, t5⟩, m3, -⟩ := M
  refine ⟨hup_self _ _ _, ⟨os, t1, t2, by rw [hup_ne _ _ (k_ne t3 m1 (by decide))]; exact t3, fun k r hk => ?_, t5⟩, m3, hw⟩
  obtain ⟨a, e1, e2⟩ := t4 k r hk
  exact ⟨a, e1, by rw [hup_ne _ _ (k_ne e2 m1 (by decide))]; exact e2⟩
theorem IA_fs {h h' : AH} {o9 St : Nat} {sm : SM} {m w : Nat} (M : SI h o9 St sm m w) (F : Fs o9 St h h') {b : Nat} {x : List Nat} (hb : h b = some (IA x)) : h' b = some (IA x) := by
  obtain ⟨vs, hv⟩ := M.st
  exact F b _ (k_ne hb M.1 (by decide)) (k_ne hb hv (by decide)) hb
/-- what stands for a name -/
theorem TO.get {h : AH} {St : Nat} {sm : SM} (H : TO h St sm) {x : Nat} (hx : x < 8) : ∃ (os : List (Option Nat)) (o : Option Nat), h St = some (105, os.map va_rf) ∧ os.length = 8 ∧ os[x]? = some o ∧
    ((o = none ∧ sm.getD x none = none) ∨ ∃ a t, o = some a ∧ sm.getD x none = some t ∧ h a = some (IA t)) := by
  obtain ⟨os, t1, t2, t3, t4, t5⟩ := H
  obtain ⟨w, hw⟩ : ∃ w, sm[x]? = some w := ⟨sm[x]'(by omega), by simp⟩
  have e : sm.getD x none = w := by rw [List.getD_eq_getElem?_getD, hw]; rfl
  cases w with
  | none => exact ⟨os, none, t3, t1, t5 x hw, Or.inl ⟨rfl, e⟩⟩
  | some t =>
    obtain ⟨a, e1, e2⟩ := t4 x t hw
    exact ⟨os, some a, t3, t1, e1, Or.inr ⟨a, t, rfl, e, e2⟩⟩
section M48
variable {la : Launch} {D : va_G} {cA : Nat → ClassId} {B0 pa : Nat} {o9 St : Nat} {sm : SM} {mm ww : Nat}
set_option maxHeartbeats 8000000 in
theorem c_deep (h : AH) (M : SI h o9 St sm mm ww) {u f : Nat} {t r : List Nat} (hu : h u = some (IA t)) (ht : TW t ∧ t.length ≤ 16) (hf : deepF f sm t = some r) : CT la D cA B0 pa yX9_deep cX9_deep 3 (some (.array .int)) (rmD 0 0 0) [.ref o9, .ref u] h (fun v h' => (∃ q, v = some (.ref q) ∧ h q = some (IA r)) ∧ h' = h) := by
  refine CT_of (by decide +kernel) (Nat.le_of_ble_eq_true rfl) ?_
  intro p e s m args below meth c X E hr hlk hnm
  have dk : ∀ {pc : Nat} {q : Instr × Nat}, lkd DX9_deep pc = some q → decode cX9_deep pc = .ok q := lkd_ok DX9_deep_ok
  have loop : ∀ (f : Nat) (t : List Nat) (u : Nat) (l : List (Nat × Value)), lsel l [2, 0] = [(2, .ref u), (0, .ref o9)] → h u = some (IA t) → TW t ∧ t.length ≤ 16 → deepF f sm t = some r → WR p la e (rmD 0 0 0) s m args below meth c D cA B0 3 (fun v h' => (∃ q, v = some (.ref q) ∧ h q = some (IA r)) ∧ h' = h) 2 l [] h 0 0 := by
    intro f
    induction f with
    | zero => intro t u l hl hu ht hf; simp [deepF] at hf
    | succ f ih =>
      intro t u l hl hu ht hf
      have fin9 : r = t → ∀ l : List (Nat × Value), lsel l [2] = [(2, .ref u)] → WR p la e (rmD 0 0 0) s m args below meth c D cA B0 3 (fun v h' => (∃ q, v = some (.ref q) ∧ h q = some (IA r)) ∧ h' = h) 39 l [] h 0 0 := by
        intro hrt l hl
        subst hrt
        refine WS.sel [2] hl ?_
        repeat refine fst1_ok X (dk rfl) rfl ?_
        exact reta_ok X hr hlk (Or.inr ⟨_, rfl⟩) (Or.inr ⟨_, rfl⟩) (dk rfl) ⟨⟨u, rfl, hu⟩, rfl⟩ (Nat.le_refl _) (Nat.le_refl _)
      have lt' : (t.map vI).length = t.length := List.length_map _
      obtain ⟨x, hx⟩ : ∃ x, t[0]? = some x := ⟨t[0]'ht.1.pos, by simp⟩
      have hxo := ht.1.2 x (List.mem_of_getElem? hx)
      have hx18 := hxo.lt
      refine WS.sel [2, 0] hl ?_
      refine fst1_ok X (dk rfl) rfl ?_
      refine alen_ok X (by decide) (dk rfl) hu ?_
      rw [lt']
      repeat refine fst1_ok X (dk rfl) rfl ?_
      refine br_ok X (dk rfl) rfl (show ((5 : Nat) : Int) + 34 = ((39 : Nat) : Int) from rfl) (fun c1 => ?_) (fun c1 => ?_)
      · refine fin9 ?_ _ rfl
        have hne : t.length ≠ 1 := fun z => c1 (by rw [z]; rfl)
        unfold deepF at hf
        split at hf
        · exact absurd rfl hne
        · exact (Option.some.inj hf).symm
      · have h1 : t.length = 1 := (nI_eq (by omega) (by omega)).mp (by have := Decidable.not_not.mp c1; rw [nI_1'] at this; exact this)
        obtain ⟨y, rfl⟩ := List.length_eq_one_iff.mp h1
        cases hx
        unfold deepF at hf
        dsimp only at hf
        repeat refine fst1_ok X (dk rfl) rfl ?_
        refine ald_ok X (Or.inl ⟨rfl, rfl⟩) (dk rfl) hu (inA_nI (j := 0) (by omega) (IA_get rfl)) ?_
        refine fst1_ok X (dk rfl) rfl ?_
        refine br_ok X (dk rfl) rfl (show ((13 : Nat) : Int) + 26 = ((39 : Nat) : Int) from rfl) (fun c2 => ?_) (fun c2 => ?_)
        · rw [nI_10] at c2
          have hx10 : 10 ≤ x := nI_ge' (by omega) (by omega) c2
          rw [if_neg (by omega)] at hf
          exact fin9 (Option.some.inj hf).symm _ rfl
        · rw [nI_10] at c2
          have hx10 : x < 10 := nI_lt' (by omega) (by omega) c2
          have hx8 : x < 8 := by rcases hxo with q | q <;> omega
          rw [if_pos hx10] at hf
          obtain ⟨os, ov, t1, t2, t3, t4⟩ := M.2.1.get hx8
          refine fst1_ok X (dk rfl) rfl ?_
          refine getf_ok X flX9_11 (dk rfl) M.1 rfl ?_
          repeat refine fst1_ok X (dk rfl) rfl ?_
          refine ald_ok X (Or.inl ⟨rfl, rfl⟩) (dk rfl) hu (inA_nI (j := 0) (by omega) (IA_get rfl)) ?_
          refine ald_ok X (Or.inr (Or.inr ⟨rfl, by decide⟩)) (dk rfl) t1 (inA_nI (v := va_rf ov) (by omega) (by rw [List.getElem?_map, t3]; rfl)) ?_
          rcases t4 with ⟨rfl, e1⟩ | ⟨b, t', rfl, e1, e2⟩
          · rw [e1] at hf
            refine br_ok X (dk rfl) rfl (show ((24 : Nat) : Int) + 15 = ((39 : Nat) : Int) from rfl) (fun _ => ?_) (fun c3 => absurd trivial c3)
            exact fin9 (Option.some.inj hf).symm _ rfl
          · rw [e1] at hf
            refine br_ok X (dk rfl) rfl (show ((24 : Nat) : Int) + 15 = ((39 : Nat) : Int) from rfl) (fun c3 => absurd c3 (fun z => z)) (fun _ => ?_)
            refine fst1_ok X (dk rfl) rfl ?_
            refine getf_ok X flX9_11 (dk rfl) M.1 rfl ?_
            repeat refine fst1_ok X (dk rfl) rfl ?_
            refine ald_ok X (Or.inl ⟨rfl, rfl⟩) (dk rfl) hu (inA_nI (j := 0) (by omega) (IA_get rfl)) ?_
            refine ald_ok X (Or.inr (Or.inr ⟨rfl, by decide⟩)) (dk rfl) t1 (inA_nI (v := .ref b) (by omega) (by rw [List.getElem?_map, t3]; rfl)) ?_
            repeat refine fst1_ok X (dk rfl) rfl ?_
            refine br_ok X (dk rfl) rfl (show ((36 : Nat) : Int) + (-34) = ((2 : Nat) : Int) from rfl) (fun _ => ?_) (fun q => absurd trivial q)
            exact ih t' b _ rfl e2 (M.2.2.1.get e1) hf
  iterate 2 refine fst1_ok X (dk rfl) rfl ?_
  exact loop f t u _ rfl hu ht hf
end M48
end U48st1
section U49st2
/-! isWithin, bind -/
section M49
variable {la : Launch} {D : va_G} {cA : Nat → ClassId} {B0 pa : Nat} {o9 St : Nat} {sm : SM} {mm ww : Nat}
set_option maxHeartbeats 8000000 in
theorem c_isWithin (h : AH) (M : SI h o9 St sm mm ww) {u x : Nat} {t : List Nat} (hx : x < 8) (hu : h u = some (IA t)) (ht : TW t ∧ t.length ≤ 16) : CT la D cA B0 pa yX9_isWithin cX9_isWithin 6 (some .boolean) (rmD 1 0 0) [.ref o9, vI x, .ref u] h (fun v h' => v = some (.int (bI (isWi sm x t))) ∧ h' = h) := by
  refine CT_of (by decide +kernel) (Nat.le_of_ble_eq_true rfl) ?_
  intro p e s m args below meth c X E hr hlk hnm
  have dk : ∀ {pc : Nat} {q : Instr × Nat}, lkd DX9_isWithin pc = some q → decode cX9_isWithin pc = .ok q := lkd_ok DX9_isWithin_ok
  have hT := M.2.2.1
  have h0 := namesN_lt ht.1.2
  have fin9 : ∀ (l : List (Nat × Value)), lsel l [3, 1] = [(3, vI (wAll sm (namesN t) 8)), (1, vI x)] → WR p la e (rmD 1 0 0) s m args below meth c D cA B0 6 (fun v h' => v = some (.int (bI (isWi sm x t))) ∧ h' = h) 70 l [] h 0 0 := by
    intro l hl
    have h8 := wAll_lt hT h0 8
    refine WS.sel [3, 1] hl ?_
    repeat refine fst1_ok X (dk rfl) rfl ?_
    rw [bit8 h8 hx]
    have hw : isWi sm x t = decide (wAll sm (namesN t) 8 >>> x % 2 = 1) := rfl
    rcases Nat.mod_two_eq_zero_or_one (wAll sm (namesN t) 8 >>> x) with q | q
    · rw [hw, q]
      refine br_ok X (dk rfl) rfl (show ((76 : Nat) : Int) + 7 = ((83 : Nat) : Int) from rfl) (fun _ => ?_) (fun q => absurd (by decide) q)
      repeat refine fst1_ok X (dk rfl) rfl ?_
      exact reti_ok X hr hlk (bI_n false) (dk rfl) ⟨rfl, rfl⟩ (Nat.le_refl _) (Nat.le_refl _)
    · rw [hw, q]
      refine br_ok X (dk rfl) rfl (show ((76 : Nat) : Int) + 7 = ((83 : Nat) : Int) from rfl) (fun q => absurd rfl q) (fun _ => ?_)
      repeat refine fst1_ok X (dk rfl) rfl ?_
      refine br_ok X (dk rfl) rfl (show ((80 : Nat) : Int) + 4 = ((84 : Nat) : Int) from rfl) (fun _ => ?_) (fun q => absurd trivial q)
      exact reti_ok X hr hlk (bI_n true) (dk rfl) ⟨rfl, rfl⟩ (Nat.le_refl _) (Nat.le_refl _)
  have outer : ∀ (d j : Nat), d = 8 - j → j ≤ 8 → ∀ (l : List (Nat × Value)), lsel l [4, 3, 1, 0] = [(4, vI j), (3, vI (wAll sm (namesN t) j)), (1, vI x), (0, .ref o9)] → WR p la e (rmD 1 0 0) s m args below meth c D cA B0 6 (fun v h' => v = some (.int (bI (isWi sm x t))) ∧ h' = h) 8 l [] h 0 0 := by
    intro d
    induction d with
    | zero =>
      intro j hd hj l hl
      have hj2 : j = 8 := by omega
      subst hj2
      refine WS.sel [4, 3, 1, 0] hl ?_
      repeat refine fst1_ok X (dk rfl) rfl ?_
      refine br_ok X (dk rfl) rfl (show ((12 : Nat) : Int) + 58 = ((70 : Nat) : Int) from rfl) (fun _ => ?_) (fun c1 => absurd (by decide) c1)
      exact fin9 _ rfl
    | succ d ih =>
      intro j hd hj l hl
      have hj8 := wAll_lt hT h0 j
      have inner : ∀ (d2 i : Nat), d2 = 8 - i → i ≤ 8 → ∀ (l : List (Nat × Value)), lsel l [5, 4, 3, 1, 0] = [(5, vI i), (4, vI j), (3, vI (wRow sm (wAll sm (namesN t) j) i)), (1, vI x), (0, .ref o9)] → WR p la e (rmD 1 0 0) s m args below meth c D cA B0 6 (fun v h' => v = some (.int (bI (isWi sm x t))) ∧ h' = h) 18 l [] h 0 0 := by
        intro d2
        induction d2 with
        | zero =>
          intro i hd2 hi l hl
          have hi2 : i = 8 := by omega
          subst hi2
          have f2 : Value.int (nI j + Int32.ofInt 1) = vI (j + 1) := congrArg Value.int (by rw [nI_1', nI_add])
          refine WS.sel [5, 4, 3, 1, 0] hl ?_
          repeat refine fst1_ok X (dk rfl) rfl ?_
          refine br_ok X (dk rfl) rfl (show ((22 : Nat) : Int) + 42 = ((64 : Nat) : Int) from rfl) (fun _ => ?_) (fun c1 => absurd (by decide) c1)
          repeat refine fst1_ok X (dk rfl) rfl ?_
          refine br_ok X (dk rfl) rfl (show ((67 : Nat) : Int) + (-59) = ((8 : Nat) : Int) from rfl) (fun _ => ?_) (fun q => absurd trivial q)
          refine WS.sel (l' := [(4, vI (j + 1)), (3, vI (wAll sm (namesN t) (j + 1))), (1, vI x), (0, .ref o9)]) [4, 3, 1, 0] (by rw [← f2]; rfl) ?_
          exact ih (j + 1) (by omega) (by omega) _ rfl
        | succ d2 ih2 =>
          intro i hd2 hi l hl
          have hi8 := wRow_lt hT hj8 i
          have es : wRow sm (wAll sm (namesN t) j) (i + 1) = wStep sm (wRow sm (wAll sm (namesN t) j) i) i := rfl
          generalize wRow sm (wAll sm (namesN t) j) i = z at hi8 es hl
          unfold wStep at es
          have f2 : Value.int (nI i + Int32.ofInt 1) = vI (i + 1) := congrArg Value.int (by rw [nI_1', nI_add])
          have go9 : ∀ (w : Nat) (l : List (Nat × Value)), wRow sm (wAll sm (namesN t) j) (i + 1) = w → lsel l [5, 4, 3, 1, 0] = [(5, vI i), (4, vI j), (3, vI w), (1, vI x), (0, .ref o9)] → WR p la e (rmD 1 0 0) s m args below meth c D cA B0 6 (fun v h' => v = some (.int (bI (isWi sm x t))) ∧ h' = h) 58 l [] h 0 0 := by
            intro w l hw hl
            refine WS.sel [5, 4, 3, 1, 0] hl ?_
            repeat refine fst1_ok X (dk rfl) rfl ?_
            refine br_ok X (dk rfl) rfl (show ((61 : Nat) : Int) + (-43) = ((18 : Nat) : Int) from rfl) (fun _ => ?_) (fun q => absurd trivial q)
            refine WS.sel (l' := [(5, vI (i + 1)), (4, vI j), (3, vI (wRow sm (wAll sm (namesN t) j) (i + 1))), (1, vI x), (0, .ref o9)]) [5, 4, 3, 1, 0] (by rw [hw, ← f2]; rfl) ?_
            exact ih2 (i + 1) (by omega) (by omega) _ rfl
          obtain ⟨os, ov, t1, t2, t3, t4⟩ := M.2.1.get (x := i) (by omega)
          refine WS.sel [5, 4, 3, 1, 0] hl ?_
          repeat refine fst1_ok X (dk rfl) rfl ?_
          refine br_ok X (dk rfl) rfl (show ((22 : Nat) : Int) + 42 = ((64 : Nat) : Int) from rfl) (fun c1 => absurd c1 (nI_ge (a := i) (b := 8) (by omega) (by omega))) (fun _ => ?_)
          repeat refine fst1_ok X (dk rfl) rfl ?_
          rw [bit8 hi8 (by omega)]
          rcases Nat.mod_two_eq_zero_or_one (z >>> i) with q | q
          · rw [q]
            rw [if_neg (by omega)] at es
            refine br_ok X (dk rfl) rfl (show ((32 : Nat) : Int) + 26 = ((58 : Nat) : Int) from rfl) (fun _ => ?_) (fun q => absurd (by decide) q)
            exact go9 z _ es rfl
          · rw [q]
            rw [if_pos q] at es
            refine br_ok X (dk rfl) rfl (show ((32 : Nat) : Int) + 26 = ((58 : Nat) : Int) from rfl) (fun q => absurd rfl q) (fun _ => ?_)
            refine fst1_ok X (dk rfl) rfl ?_
            refine getf_ok X flX9_11 (dk rfl) M.1 rfl ?_
            refine fst1_ok X (dk rfl) rfl ?_
            refine ald_ok X (Or.inr (Or.inr ⟨rfl, by decide⟩)) (dk rfl) t1 (inA_nI (v := va_rf ov) (by omega) (by rw [List.getElem?_map, t3]; rfl)) ?_
            rcases t4 with ⟨rfl, e1⟩ | ⟨b, t', rfl, e1, e2⟩
            · rw [e1] at es
              refine br_ok X (dk rfl) rfl (show ((42 : Nat) : Int) + 16 = ((58 : Nat) : Int) from rfl) (fun _ => ?_) (fun c3 => absurd trivial c3)
              exact go9 z _ es rfl
            · rw [e1] at es
              have tt := hT.get e1
              refine br_ok X (dk rfl) rfl (show ((42 : Nat) : Int) + 16 = ((58 : Nat) : Int) from rfl) (fun c3 => absurd c3 (fun z => z)) (fun _ => ?_)
              repeat refine fst1_ok X (dk rfl) rfl ?_
              refine getf_ok X flX9_11 (dk rfl) M.1 rfl ?_
              refine fst1_ok X (dk rfl) rfl ?_
              refine ald_ok X (Or.inr (Or.inr ⟨rfl, by decide⟩)) (dk rfl) t1 (inA_nI (v := .ref b) (by omega) (by rw [List.getElem?_map, t3]; rfl)) ?_
              refine callSN_ok (av := [.ref b]) (r := [vI z]) X E (c_namesOf h e2 (by omega) tt.1.lt) lkX10_namesOf mnX9_21 lsX10_namesOf ⟨Nat.le_of_ble_eq_true rfl, Nat.le_of_ble_eq_true rfl⟩ ⟨Nat.le_of_ble_eq_true rfl, Nat.le_of_ble_eq_true rfl⟩ (Nat.le_of_ble_eq_true rfl) (dk rfl) ?_
              rintro v h' ⟨rfl, rfl⟩
              iterate 2 refine fst1_ok X (dk rfl) rfl ?_
              exact go9 (z ||| namesN t') _ es (by rw [nI_or]; rfl)
      refine WS.sel [4, 3, 1, 0] hl ?_
      repeat refine fst1_ok X (dk rfl) rfl ?_
      refine br_ok X (dk rfl) rfl (show ((12 : Nat) : Int) + 58 = ((70 : Nat) : Int) from rfl) (fun c1 => absurd c1 (nI_ge (a := j) (b := 8) (by omega) (by omega))) (fun _ => ?_)
      iterate 2 refine fst1_ok X (dk rfl) rfl ?_
      exact inner 8 0 rfl (Nat.zero_le _) _ rfl
  refine fst1_ok X (dk rfl) rfl ?_
  refine callSN_ok (av := [.ref u]) (r := []) X E (c_namesOf h hu (by omega) ht.1.lt) lkX10_namesOf mnX9_21 lsX10_namesOf ⟨Nat.le_of_ble_eq_true rfl, Nat.le_of_ble_eq_true rfl⟩ ⟨Nat.le_of_ble_eq_true rfl, Nat.le_of_ble_eq_true rfl⟩ (Nat.le_of_ble_eq_true rfl) (dk rfl) ?_
  rintro v h' ⟨rfl, rfl⟩
  iterate 3 refine fst1_ok X (dk rfl) rfl ?_
  exact outer 8 0 rfl (Nat.zero_le _) _ rfl
/-- a place gets a row -/
theorem SI.put {h : AH} (M : SI h o9 St sm mm ww) {x q : Nat} {r : List Nat} (hx : x < 8) (hq : h q = some (IA r)) (hr : TW r ∧ r.length ≤ 16) : ∃ vs, h St = some (105, vs) ∧ vs.length = 8 ∧ SI (hup h St (105, vs.set x (.ref q))) o9 St (sm.set x (some r)) mm ww := by
  obtain ⟨m1, m2, m3, m4⟩ := M
  obtain ⟨vs, h1, h2, h3⟩ := m2.put hq hx
  exact ⟨vs, h1, h2, by rw [hup_ne _ _ (k_ne m1 h1 (by decide))]; exact m1, h3, m3.set hr, m4⟩
def goP (o9 St : Nat) (h : AH) (g : GS) (v : Option Value) (h' : AH) : Prop := v = none ∧ SI h' o9 St g.1 g.2.1 g.2.2.1 ∧ Fs o9 St h h'
theorem c_bind (h : AH) (M : SI h o9 St sm mm ww) {u x : Nat} {t : List Nat} (hx : x < 8) (hu : h u = some (IA t)) (ht : TW t ∧ t.length ≤ 16) : CT la D cA B0 pa yX9_bind cX9_bind 3 none (rmD 2 0 0) [.ref o9, vI x, .ref u] h (goP o9 St h (bindF sm mm ww x t)) := by
  refine CT_of (by decide +kernel) (Nat.le_of_ble_eq_true rfl) ?_
  intro p e s m args below meth c X E hr hlk hnm
  have dk : ∀ {pc : Nat} {q : Instr × Nat}, lkd DX9_bind pc = some q → decode cX9_bind pc = .ok q := lkd_ok DX9_bind_ok
  repeat refine fst1_ok X (dk rfl) rfl ?_
  refine callV_ok (ci := 11) (T := TX9) (N := 3) (av := [vI x, .ref u]) (r := []) X E (c_isWithin h M hx hu ht) lkX9_isWithin mlX9_49 lmX9_isWithin lpX9_isWithin ⟨Nat.le_of_ble_eq_true rfl, Nat.le_of_ble_eq_true rfl⟩ ⟨Nat.le_of_ble_eq_true rfl, Nat.le_of_ble_eq_true rfl⟩ rfl M.1 (Nat.le_of_ble_eq_true rfl) (dk rfl) ?_
  rintro v h' ⟨rfl, rfl⟩
  unfold bindF
  cases hw : isWi sm x t with
  | true =>
    refine br_ok X (dk rfl) rfl (show ((6 : Nat) : Int) + 11 = ((17 : Nat) : Int) from rfl) (fun q => absurd q bI_t) (fun _ => ?_)
    repeat refine fst1_ok X (dk rfl) rfl ?_
    refine putf_ok X flX9_25 ftX9_2 (Or.inl rfl) rfl rfl (dk rfl) M.1 (Nat.le_of_ble_eq_true rfl) ?_
    refine br_ok X (dk rfl) rfl (show ((14 : Nat) : Int) + 10 = ((24 : Nat) : Int) from rfl) (fun _ => ?_) (fun q => absurd trivial q)
    exact retv_ok X hr hlk (dk rfl) ⟨rfl, M.fld mm 2 (by decide), (Fs.rf h').set (Or.inl rfl) _⟩ (Nat.le_refl _) (Nat.le_refl _)
  | false =>
    refine br_ok X (dk rfl) rfl (show ((6 : Nat) : Int) + 11 = ((17 : Nat) : Int) from rfl) (fun _ => ?_) (fun q => absurd bI_f' q)
    refine fst1_ok X (dk rfl) rfl ?_
    refine getf_ok X flX9_11 (dk rfl) M.1 rfl ?_
    repeat refine fst1_ok X (dk rfl) rfl ?_
    obtain ⟨vs, v1, v2, M2⟩ := M.put hx hu ht
    refine str_ok X (dk rfl) v1 hu (by omega) (by omega) ?_
    exact retv_ok X hr hlk (dk rfl) ⟨rfl, M2, (Fs.rf h').set (Or.inr rfl) _⟩ (Nat.le_refl _) (Nat.le_refl _)
end M49
end U49st2
section U50st3
/-! go, goOn -/
theorem nI_dec (n : Nat) : nI (n + 1) + Int32.ofInt (-1) = nI n := by
  rw [show Int32.ofInt (-1) = -1 by decide, ← Int32.sub_eq_add_neg]
  exact nI_pred n
section M50
variable {la : Launch} {D : va_G} {cA : Nat → ClassId} {B0 pa : Nat} {o9 St : Nat}
/-- go, with as much fuel -/
def GoC (la : Launch) (D : va_G) (cA : Nat → ClassId) (B0 pa o9 St f : Nat) : Prop := ∀ (h : AH) (sm : SM) (mm ww u1 u2 : Nat) (one other : List Nat) (g : GS), SI h o9 St sm mm ww → h u1 = some (IA one) → h u2 = some (IA other) → (TW one ∧ one.length ≤ 16) → (TW other ∧ other.length ≤ 16) → goF f one other sm mm ww = some g →
  CT la D cA B0 pa yX9_go cX9_go 7 none (rmD (2 * f + 3) g.2.2.2.1 g.2.2.2.2) [.ref o9, .ref u1, .ref u2] h (goP o9 St h g)
theorem drop_lt {xs : List Nat} {k i n : Nat} (h : endL (k + 1) (xs.drop i) = some n) : i < xs.length := by
  rcases Nat.lt_or_ge i xs.length with q | q
  · exact q
  · rw [List.drop_eq_nil_of_le q] at h
    simp [endL] at h
/-- the next part of a row -/
theorem next_part {xs : List Nat} (hx : TW xs ∧ xs.length ≤ 16) {k i : Nat} (h : endL (k + 1) (xs.drop i) = some (xs.length - i)) : endL 1 (xs.drop i) = some (tl xs i) ∧ i + tl xs i ≤ xs.length ∧ (TW (sub' xs i) ∧ (sub' xs i).length ≤ 16) ∧ endL k (xs.drop (i + tl xs i)) = some (xs.length - (i + tl xs i)) := by
  have hi := drop_lt h
  obtain ⟨g1, g2, g3, g4, g5⟩ := sub_ok hx.1 hx.2 hi
  refine ⟨g1, g3, ⟨g4, by omega⟩, ?_⟩
  rw [Nat.add_comm k 1] at h
  obtain ⟨k1, e1, e2, e3⟩ := endL_add _ _ _ _ h
  cases e1.symm.trans g1
  rw [List.drop_drop] at e3
  rw [e3]
  congr 1
  omega
set_option maxHeartbeats 16000000 in
theorem c_goOn {f : Nat} (IH : GoC la D cA B0 pa o9 St f) (h : AH) {sm : SM} {mm ww u1 u2 x : Nat} {a b : List Nat} {G : GS} (M : SI h o9 St sm mm ww) (hu1 : h u1 = some (IA a)) (hu2 : h u2 = some (IA b)) (ta : TW a ∧ a.length ≤ 16) (tb : TW b ∧ b.length ≤ 16) (ha0 : a[0]? = some x) (hb0 : b[0]? = some x) (hG : goOnF (goF f) (pF x) a b 1 1 sm mm ww = some G) :
    CT la D cA B0 pa yX9_goOn cX9_goOn 6 none (rmD (2 * f + 4) G.2.2.2.1 G.2.2.2.2) [.ref o9, .ref u1, .ref u2] h (goP o9 St h G) := by
  refine CT_of (by decide +kernel) (Nat.le_of_ble_eq_true rfl) ?_
  intro p e s m args below meth c X E hr hlk hnm
  have dk : ∀ {pc : Nat} {q : Instr × Nat}, lkd DX9_goOn pc = some q → decode cX9_goOn pc = .ok q := lkd_ok DX9_goOn_ok
  obtain ⟨Gs, Gm, Gw, Gc, Gn⟩ := G
  have hx18 := (ta.1.2 x (List.mem_of_getElem? ha0)).lt
  have first : ∀ {xs : List Nat}, TW xs → xs[0]? = some x → endL (pF x) (xs.drop 1) = some (xs.length - 1) := by
    intro xs hx h0
    cases xs with
    | nil => simp at h0
    | cons y r =>
      cases h0
      have h1 := hx.1
      simp only [endL, Option.map_eq_some_iff, Nat.zero_add] at h1
      obtain ⟨j, hj, hj2⟩ := h1
      rw [List.drop_succ_cons, List.drop_zero, hj]
      congr 1
      simp only [List.length_cons] at hj2 ⊢
      omega
  have loop : ∀ (kk i j : Nat) (sm : SM) (m1 w1 : Nat) (c1 n1 : Nat) (hh : AH) (k0 n0 : Nat) (l : List (Nat × Value)), kk < 2 ^ 20 → lsel l [5, 4, 3, 2, 1, 0] = [(5, vI kk), (4, vI j), (3, vI i), (2, .ref u2), (1, .ref u1), (0, .ref o9)] → i ≤ a.length → j ≤ b.length → endL kk (a.drop i) = some (a.length - i) → endL kk (b.drop j) = some (b.length - j) → SI hh o9 St sm m1 w1 → Fs o9 St h hh →
      goOnF (goF f) kk a b i j sm m1 w1 = some (Gs, Gm, Gw, c1, n1) → k0 + c1 = Gc → n0 + n1 = Gn → WR p la e (rmD (2 * f + 4) Gc Gn) s m args below meth c D cA B0 6 (goP o9 St h (Gs, Gm, Gw, Gc, Gn)) 13 l [] hh k0 n0 := by
    intro kk
    induction kk with
    | zero =>
      intro i j sm m1 w1 c1 n1 hh k0 n0 l hkk hl hi hj hea heb MM FF hgo hk hn
      simp only [goOnF, Option.some.injEq, Prod.mk.injEq] at hgo
      obtain ⟨rfl, rfl, rfl, rfl, rfl⟩ := hgo
      refine WS.sel [5, 4, 3, 2, 1, 0] hl ?_
      repeat refine fst1_ok X (dk rfl) rfl ?_
      refine br_ok X (dk rfl) rfl (show ((15 : Nat) : Int) + 38 = ((53 : Nat) : Int) from rfl) (fun _ => ?_) (fun q => absurd (by decide) q)
      exact retv_ok X hr hlk (dk rfl) ⟨rfl, MM, FF⟩ (by show k0 ≤ Gc; omega) (by show n0 ≤ Gn; omega)
    | succ kk ih =>
      intro i j sm m1 w1 c1 n1 hh k0 n0 l hkk hl hi hj hea heb MM FF hgo hk hn
      obtain ⟨a1, a2, a3, a4⟩ := next_part ta hea
      obtain ⟨b1, b2, b3, b4⟩ := next_part tb heb
      unfold goOnF at hgo
      cases hg1 : goF f (sub' a i) (sub' b j) sm m1 w1 with
      | none => rw [hg1] at hgo; cases hgo
      | some g1 =>
        obtain ⟨s2, m2, w2, c2, n2⟩ := g1
        rw [hg1] at hgo
        dsimp only at hgo
        cases hg2 : goOnF (goF f) kk a b (i + tl a i) (j + tl b j) s2 m2 w2 with
        | none => rw [hg2] at hgo; cases hgo
        | some g2 =>
          obtain ⟨s3, m3, w3, c3, n3⟩ := g2
          rw [hg2] at hgo
          simp only [Option.some.injEq, Prod.mk.injEq] at hgo
          obtain ⟨rfl, rfl, rfl, e4, e5⟩ := hgo
          have hu1h := IA_fs M FF hu1
          have hu2h := IA_fs M FF hu2
          refine WS.sel [5, 4, 3, 2, 1, 0] hl ?_
          repeat refine fst1_ok X (dk rfl) rfl ?_
          refine br_ok X (dk rfl) rfl (show ((15 : Nat) : Int) + 38 = ((53 : Nat) : Int) from rfl) (fun q => absurd q (nI_nle (by omega) (by omega))) (fun _ => ?_)
          repeat refine fst1_ok X (dk rfl) rfl ?_
          refine callSN_ok (av := [.ref u1, vI i]) (r := [.ref o9]) X E (c_at hh hu1h ta.1.lt (by omega) a1) lkX10_at mnX9_57 lsX10_at ⟨by show 2 + 1 ≤ 2 * f + 4; omega, by show 8 + (2 + 11) + 40 * 2 ≤ 40 * (2 * f + 4); omega⟩ ⟨by show k0 + 1 ≤ Gc; omega, by show n0 + tl a i ≤ Gn; omega⟩ (Nat.le_of_ble_eq_true rfl) (dk rfl) ?_
          rintro v h2 ⟨q1, rfl, hq1, hB1, rfl⟩
          have X1 := Ext.new hq1 (IA ((a.drop i).take (tl a i)))
          repeat refine fst1_ok X (dk rfl) rfl ?_
          refine callSN_ok (av := [.ref u2, vI j]) (r := [.ref q1, .ref o9]) X E (c_at _ (X1 _ _ hu2h) tb.1.lt (by omega) b1) lkX10_at mnX9_57 lsX10_at ⟨by show 2 + 1 ≤ 2 * f + 4; omega, by show 8 + (2 + 11) + 40 * 2 ≤ 40 * (2 * f + 4); omega⟩ ⟨by show k0 + 1 + 1 ≤ Gc; omega, by show n0 + tl a i + tl b j ≤ Gn; omega⟩ (Nat.le_of_ble_eq_true rfl) (dk rfl) ?_
          rintro v h3 ⟨q2, rfl, hq2, hB2, rfl⟩
          have X2 := X1.trans (Ext.new hq2 (IA ((b.drop j).take (tl b j))))
          refine callV_ok (ci := 11) (T := TX9) (N := 3) (av := [.ref q1, .ref q2]) (r := []) X E (IH _ sm m1 w1 q1 q2 (sub' a i) (sub' b j) _ (MM.ext X2) (Ext.new hq2 _ _ _ (hup_self _ _ _)) (hup_self _ _ _) a3 b3 hg1) lkX9_go mlX9_17 lmX9_go lpX9_go ⟨by show 2 * f + 3 + 1 ≤ 2 * f + 4; omega, by show 8 + (7 + 11) + 40 * (2 * f + 3) ≤ 40 * (2 * f + 4); omega⟩ ⟨by show k0 + 1 + 1 + c2 ≤ Gc; omega, by show n0 + tl a i + tl b j + n2 ≤ Gn; omega⟩ rfl (MM.ext X2).1 (Nat.le_of_ble_eq_true rfl) (dk rfl) ?_
          rintro v h4 ⟨rfl, M4, F4⟩
          have FF4 : Fs o9 St h h4 := (FF.trans (Fs.ext X2)).trans F4
          refine WS.widen (k' := k0 + 2 + c2) (n' := n0 + tl a i + tl b j + n2) (by show k0 + 1 + 1 + c2 ≤ k0 + 2 + c2; omega) (by show n0 + tl a i + tl b j + n2 ≤ n0 + tl a i + tl b j + n2; omega) ?_
          refine fst1_ok X (dk rfl) rfl ?_
          refine fst1_ok X (dk rfl) rfl ?_
          refine callSN_ok (av := [.ref u1, vI i]) (r := []) X E (c_end h4 (IA_fs M FF4 hu1) ta.1.lt (by omega) a1) lkX10_end mnX9_61 lsX10_end ⟨by show 1 + 1 ≤ 2 * f + 4; omega, by show 8 + (4 + 11) + 40 * 1 ≤ 40 * (2 * f + 4); omega⟩ ⟨by show k0 + 2 + c2 + 0 ≤ Gc; omega, by show n0 + tl a i + tl b j + n2 + 0 ≤ Gn; omega⟩ (Nat.le_of_ble_eq_true rfl) (dk rfl) ?_
          rintro v h5 ⟨rfl, rfl⟩
          repeat refine fst1_ok X (dk rfl) rfl ?_
          refine callSN_ok (av := [.ref u2, vI j]) (r := []) X E (c_end h5 (IA_fs M FF4 hu2) tb.1.lt (by omega) b1) lkX10_end mnX9_61 lsX10_end ⟨by show 1 + 1 ≤ 2 * f + 4; omega, by show 8 + (4 + 11) + 40 * 1 ≤ 40 * (2 * f + 4); omega⟩ ⟨by show k0 + 2 + c2 + 0 + 0 ≤ Gc; omega, by show n0 + tl a i + tl b j + n2 + 0 + 0 ≤ Gn; omega⟩ (Nat.le_of_ble_eq_true rfl) (dk rfl) ?_
          rintro v h6 ⟨rfl, rfl⟩
          repeat refine fst1_ok X (dk rfl) rfl ?_
          refine br_ok X (dk rfl) rfl (show ((50 : Nat) : Int) + (-37) = ((13 : Nat) : Int) from rfl) (fun _ => ?_) (fun q => absurd trivial q)
          have f2 : Value.int (nI (kk + 1) + Int32.ofInt (-1)) = vI kk := congrArg Value.int (nI_dec kk)
          refine WS.sel (l' := [(5, vI kk), (4, vI (j + tl b j)), (3, vI (i + tl a i)), (2, .ref u2), (1, .ref u1), (0, .ref o9)]) [5, 4, 3, 2, 1, 0] (by rw [← f2]; rfl) ?_
          exact ih (i + tl a i) (j + tl b j) s2 m2 w2 c3 n3 h6 _ _ _ (by omega) rfl a2 b2 a4 b4 M4 FF4 hg2 (by show k0 + 2 + c2 + 0 + 0 + c3 = Gc; omega) (by show n0 + tl a i + tl b j + n2 + 0 + 0 + n3 = Gn; omega)
  repeat refine fst1_ok X (dk rfl) rfl ?_
  refine ald_ok X (Or.inl ⟨rfl, rfl⟩) (dk rfl) hu1 (inA_nI (j := 0) (by omega) (IA_get ha0)) ?_
  refine callSN_ok (av := [vI x]) (r := []) X E (c_parts h (x := x) (by omega)) lkX10_parts mnX9_53 lsX10_parts ⟨by show 0 + 1 ≤ 2 * f + 4; omega, by show 8 + (1 + 11) + 40 * 0 ≤ 40 * (2 * f + 4); omega⟩ ⟨by show 0 + 0 ≤ Gc; omega, by show 0 + 0 ≤ Gn; omega⟩ (Nat.le_of_ble_eq_true rfl) (dk rfl) ?_
  rintro v h' ⟨rfl, rfl⟩
  refine fst1_ok X (dk rfl) rfl ?_
  exact loop (pF x) 1 1 sm mm ww Gc Gn h' _ _ _ (pF_le x (by omega)) rfl ta.1.pos tb.1.pos (first ta.1 ha0) (first tb.1 hb0) M (Fs.rf _) hG (Nat.zero_add _) (Nat.zero_add _)
end M50
end U50st3
section U51st4
/-! go, by its fuel -/
section M51
variable {la : Launch} {D : va_G} {cA : Nat → ClassId} {B0 pa : Nat} {o9 St : Nat}
set_option maxHeartbeats 16000000 in
theorem c_go : ∀ f : Nat, GoC la D cA B0 pa o9 St f
  | 0 => by
    intro h sm mm ww u1 u2 one other g M h1 h2 t1 t2 hg
    simp [goF] at hg
  | f + 1 => by
    have IH := c_go f
    intro h sm mm ww u1 u2 one other G M hu1 hu2 t1 t2 hG
    obtain ⟨Gs, Gm, Gw, Gc, Gn⟩ := G
    refine CT_of (by decide +kernel) (Nat.le_of_ble_eq_true rfl) ?_
    intro p e s m args below meth c X E hr hlk hnm
    have dk : ∀ {pc : Nat} {q : Instr × Nat}, lkd DX9_go pc = some q → decode cX9_go pc = .ok q := lkd_ok DX9_go_ok
    have hw2 := M.2.2.2
    unfold goF at hG
    repeat refine fst1_ok X (dk rfl) rfl ?_
    refine getf_ok X flX9_25 (dk rfl) M.1 rfl ?_
    refine br_ok X (dk rfl) rfl (show ((4 : Nat) : Int) + 4 = ((8 : Nat) : Int) from rfl) (fun c1 => ?_) (fun c1 => ?_)
    · have hw0 : ww = 0 := nI_le0 (by omega) c1
      subst hw0
      rw [if_neg (Nat.lt_irrefl 0)] at hG
      repeat refine fst1_ok X (dk rfl) rfl ?_
      refine getf_ok X flX9_29 (dk rfl) M.1 rfl ?_
      repeat refine fst1_ok X (dk rfl) rfl ?_
      rw [nI_1', nI_add]
      refine putf_ok X flX9_29 ftX9_1 (Or.inl rfl) rfl rfl (dk rfl) M.1 (Nat.le_of_ble_eq_true rfl) ?_
      have M1 : SI (hup h o9 (11, [.ref St, vI (mm + 1), vI 0])) o9 St sm (mm + 1) 0 := M.fld (mm + 1) 0 (by decide)
      have F1 : Fs o9 St h (hup h o9 (11, [.ref St, vI (mm + 1), vI 0])) := (Fs.rf h).set (Or.inl rfl) _
      show WR p la e (rmD (2 * (f + 1) + 3) Gc Gn) s m args below meth c D cA B0 7 (goP o9 St h (Gs, Gm, Gw, Gc, Gn)) 18 (lv_args 0 [.ref o9, .ref u1, .ref u2]) [] (hup h o9 (11, [.ref St, vI (mm + 1), vI 0])) 0 0
      have hu1' := IA_fs M F1 hu1
      have hu2' := IA_fs M F1 hu2
      generalize hup h o9 (11, [.ref St, vI (mm + 1), vI 0]) = h1 at M1 F1 hu1' hu2'
      cases hd1 : deepF 9 sm one with
      | none => rw [hd1] at hG; cases hG
      | some r1 =>
      cases hd2 : deepF 9 sm other with
      | none => rw [hd1, hd2] at hG; cases r1 <;> cases hG
      | some r2 =>
      rw [hd1, hd2] at hG
      have w1 := deepF_TW M.2.2.1 9 t1 hd1
      have w2 := deepF_TW M.2.2.1 9 t2 hd2
      cases r1 with
      | nil => exact absurd w1.1.pos (Nat.lt_irrefl 0)
      | cons x a =>
      cases r2 with
      | nil => exact absurd w2.1.pos (Nat.lt_irrefl 0)
      | cons y b =>
      dsimp only at hG
      have hxo := w1.1.2 x List.mem_cons_self
      have hyo := w2.1.2 y List.mem_cons_self
      have hx18 := hxo.lt
      have hy18 := hyo.lt
      repeat refine fst1_ok X (dk rfl) rfl ?_
      refine callV_ok (ci := 11) (T := TX9) (N := 3) (av := [.ref u1]) (r := []) X E (c_deep h1 M1 hu1' t1 hd1) lkX9_deep mlX9_32 lmX9_deep lpX9_deep ⟨by show 0 + 1 ≤ 2 * (f + 1) + 3; omega, by show 8 + (3 + 11) + 40 * 0 ≤ 40 * (2 * (f + 1) + 3); omega⟩ ⟨Nat.zero_le _, Nat.zero_le _⟩ rfl M1.1 (Nat.le_of_ble_eq_true rfl) (dk rfl) ?_
      rintro v h2 ⟨⟨q1, rfl, hq1⟩, rfl⟩
      repeat refine fst1_ok X (dk rfl) rfl ?_
      refine callV_ok (ci := 11) (T := TX9) (N := 3) (av := [.ref u2]) (r := []) X E (c_deep h2 M1 hu2' t2 hd2) lkX9_deep mlX9_32 lmX9_deep lpX9_deep ⟨by show 0 + 1 ≤ 2 * (f + 1) + 3; omega, by show 8 + (3 + 11) + 40 * 0 ≤ 40 * (2 * (f + 1) + 3); omega⟩ ⟨Nat.zero_le _, Nat.zero_le _⟩ rfl M1.1 (Nat.le_of_ble_eq_true rfl) (dk rfl) ?_
      rintro v h3 ⟨⟨q2, rfl, hq2⟩, rfl⟩
      show WR p la e (rmD (2 * (f + 1) + 3) Gc Gn) s m args below meth c D cA B0 7 (goP o9 St h (Gs, Gm, Gw, Gc, Gn)) 29 _ _ h3 0 0
      have i1 : (List.map vI (x :: a))[0]? = some (vI x) := rfl
      have i2 : (List.map vI (y :: b))[0]? = some (vI y) := rfl
      have ret9 : ∀ (l : List (Nat × Value)) (hh : AH), SI hh o9 St Gs Gm Gw → Fs o9 St h hh → ∀ (k n : Nat), k ≤ Gc → n ≤ Gn → WR p la e (rmD (2 * (f + 1) + 3) Gc Gn) s m args below meth c D cA B0 7 (goP o9 St h (Gs, Gm, Gw, Gc, Gn)) 175 l [] hh k n := by
        intro l hh MM FF k n hk hn
        exact retv_ok X hr hlk (dk rfl) ⟨rfl, MM, FF⟩ hk hn
      have mid : ∀ (fx fy : Bool), fx = decide (x < 10) → fy = decide (y < 10) → ∀ l : List (Nat × Value), lsel l [6, 5, 4, 3, 0] = [(6, .int (bI fy)), (5, .int (bI fx)), (4, .ref q2), (3, .ref q1), (0, .ref o9)] → WR p la e (rmD (2 * (f + 1) + 3) Gc Gn) s m args below meth c D cA B0 7 (goP o9 St h (Gs, Gm, Gw, Gc, Gn)) 62 l [] h3 0 0 := by
        intro fx fy hfx hfy l hl
        refine WS.sel [6, 5, 4, 3, 0] hl ?_
        refine fst1_ok X (dk rfl) rfl ?_
        cases fx with
        | true =>
          have hx10 : x < 10 := of_decide_eq_true hfx.symm
          have hx8 : x < 8 := by rcases hxo with q | q <;> omega
          rw [if_pos hx10] at hG
          refine br_ok X (dk rfl) rfl (show ((64 : Nat) : Int) + 52 = ((116 : Nat) : Int) from rfl) (fun q => absurd q bI_t) (fun _ => ?_)
          refine fst1_ok X (dk rfl) rfl ?_
          cases fy with
          | true =>
            have hy10 : y < 10 := of_decide_eq_true hfy.symm
            have hy8 : y < 8 := by rcases hyo with q | q <;> omega
            rw [if_pos hy10] at hG
            simp only [Option.some.injEq, Prod.mk.injEq] at hG
            obtain ⟨e1, rfl, rfl, rfl, rfl⟩ := hG
            refine br_ok X (dk rfl) rfl (show ((69 : Nat) : Int) + 47 = ((116 : Nat) : Int) from rfl) (fun q => absurd q bI_t) (fun _ => ?_)
            repeat refine fst1_ok X (dk rfl) rfl ?_
            refine ald_ok X (Or.inl ⟨rfl, rfl⟩) (dk rfl) hq1 (inA_nI (j := 0) (by omega) i1) ?_
            repeat refine fst1_ok X (dk rfl) rfl ?_
            refine ald_ok X (Or.inl ⟨rfl, rfl⟩) (dk rfl) hq2 (inA_nI (j := 0) (by omega) i2) ?_
            refine br_ok X (dk rfl) rfl (show ((79 : Nat) : Int) + 96 = ((175 : Nat) : Int) from rfl) (fun c2 => ?_) (fun c2 => ?_)
            · have hxy : x = y := (nI_eq (by omega) (by omega)).mp c2
              rw [if_pos hxy] at e1
              subst e1
              exact ret9 _ _ M1 F1 _ _ (Nat.zero_le _) (Nat.zero_le _)
            · have hxy : x ≠ y := fun z => c2 (by rw [z])
              rw [if_neg hxy] at e1
              refine fst1_ok X (dk rfl) rfl ?_
              refine getf_ok X flX9_11 (dk rfl) M1.1 rfl ?_
              repeat refine fst1_ok X (dk rfl) rfl ?_
              refine ald_ok X (Or.inl ⟨rfl, rfl⟩) (dk rfl) hq1 (inA_nI (j := 0) (by omega) i1) ?_
              repeat refine fst1_ok X (dk rfl) rfl ?_
              refine ald_ok X (Or.inl ⟨rfl, rfl⟩) (dk rfl) hq2 (inA_nI (j := 0) (by omega) i2) ?_
              refine mmax_ok X (by omega) (by omega) mlX9_36 (dk rfl) (by show 1 ≤ 2 * (f + 1) + 3; omega) (by show 1 + 13 ≤ 40 * (2 * (f + 1) + 3); omega) (Nat.zero_le _) (Nat.zero_le _) ?_
              repeat refine fst1_ok X (dk rfl) rfl ?_
              refine ald_ok X (Or.inl ⟨rfl, rfl⟩) (dk rfl) hq1 (inA_nI (j := 0) (by omega) i1) ?_
              repeat refine fst1_ok X (dk rfl) rfl ?_
              refine ald_ok X (Or.inl ⟨rfl, rfl⟩) (dk rfl) hq2 (inA_nI (j := 0) (by omega) i2) ?_
              have hm8 : max x y < 8 := by omega
              refine br_ok X (dk rfl) rfl (show ((103 : Nat) : Int) + 7 = ((110 : Nat) : Int) from rfl) (fun c3 => ?_) (fun c3 => ?_)
              · have hge : y ≤ x := nI_ge' (by omega) (by omega) c3
                rw [if_neg (by omega)] at e1
                subst e1
                refine fst1_ok X (dk rfl) rfl ?_
                obtain ⟨vs, v1, v2, M2⟩ := M1.put hm8 hq2 w2
                refine str_ok X (dk rfl) v1 hq2 (by omega) (by omega) ?_
                refine br_ok X (dk rfl) rfl (show ((113 : Nat) : Int) + 62 = ((175 : Nat) : Int) from rfl) (fun _ => ?_) (fun q => absurd trivial q)
                exact ret9 _ _ M2 (F1.set (Or.inr rfl) _) _ _ (Nat.zero_le _) (Nat.zero_le _)
              · have hlt : x < y := nI_lt' (by omega) (by omega) c3
                rw [if_pos hlt] at e1
                subst e1
                refine fst1_ok X (dk rfl) rfl ?_
                refine br_ok X (dk rfl) rfl (show ((107 : Nat) : Int) + 5 = ((112 : Nat) : Int) from rfl) (fun _ => ?_) (fun q => absurd trivial q)
                obtain ⟨vs, v1, v2, M2⟩ := M1.put hm8 hq1 w1
                refine str_ok X (dk rfl) v1 hq1 (by omega) (by omega) ?_
                refine br_ok X (dk rfl) rfl (show ((113 : Nat) : Int) + 62 = ((175 : Nat) : Int) from rfl) (fun _ => ?_) (fun q => absurd trivial q)
                exact ret9 _ _ M2 (F1.set (Or.inr rfl) _) _ _ (Nat.zero_le _) (Nat.zero_le _)
          | false =>
            have hy10 : ¬ y < 10 := of_decide_eq_false hfy.symm
            rw [if_neg hy10] at hG
            have e1 := Option.some.inj hG
            refine br_ok X (dk rfl) rfl (show ((69 : Nat) : Int) + 47 = ((116 : Nat) : Int) from rfl) (fun _ => ?_) (fun q => absurd bI_f' q)
            refine fst1_ok X (dk rfl) rfl ?_
            refine br_ok X (dk rfl) rfl (show ((118 : Nat) : Int) + 15 = ((133 : Nat) : Int) from rfl) (fun q => absurd q bI_t) (fun _ => ?_)
            repeat refine fst1_ok X (dk rfl) rfl ?_
            refine ald_ok X (Or.inl ⟨rfl, rfl⟩) (dk rfl) hq1 (inA_nI (j := 0) (by omega) i1) ?_
            refine fst1_ok X (dk rfl) rfl ?_
            refine callV_ok (ci := 11) (T := TX9) (N := 3) (av := [vI x, .ref q2]) (r := []) X E (c_bind h3 M1 hx8 hq2 w2) lkX9_bind mlX9_42 lmX9_bind lpX9_bind ⟨by show 2 + 1 ≤ 2 * (f + 1) + 3; omega, by show 8 + (3 + 11) + 40 * 2 ≤ 40 * (2 * (f + 1) + 3); omega⟩ ⟨Nat.zero_le _, Nat.zero_le _⟩ rfl M1.1 (Nat.le_of_ble_eq_true rfl) (dk rfl) ?_
            rintro v h4 ⟨rfl, M4, F4⟩
            rw [e1] at M4
            refine br_ok X (dk rfl) rfl (show ((130 : Nat) : Int) + 45 = ((175 : Nat) : Int) from rfl) (fun _ => ?_) (fun q => absurd trivial q)
            exact ret9 _ _ M4 (F1.trans F4) _ _ (Nat.zero_le _) (Nat.zero_le _)
        | false =>
          have hx10 : ¬ x < 10 := of_decide_eq_false hfx.symm
          rw [if_neg hx10] at hG
          refine br_ok X (dk rfl) rfl (show ((64 : Nat) : Int) + 52 = ((116 : Nat) : Int) from rfl) (fun _ => ?_) (fun q => absurd bI_f' q)
          refine fst1_ok X (dk rfl) rfl ?_
          refine br_ok X (dk rfl) rfl (show ((118 : Nat) : Int) + 15 = ((133 : Nat) : Int) from rfl) (fun _ => ?_) (fun q => absurd bI_f' q)
          refine fst1_ok X (dk rfl) rfl ?_
          cases fy with
          | true =>
            have hy10 : y < 10 := of_decide_eq_true hfy.symm
            have hy8 : y < 8 := by rcases hyo with q | q <;> omega
            rw [if_pos hy10] at hG
            have e1 := Option.some.inj hG
            refine br_ok X (dk rfl) rfl (show ((135 : Nat) : Int) + 15 = ((150 : Nat) : Int) from rfl) (fun q => absurd q bI_t) (fun _ => ?_)
            repeat refine fst1_ok X (dk rfl) rfl ?_
            refine ald_ok X (Or.inl ⟨rfl, rfl⟩) (dk rfl) hq2 (inA_nI (j := 0) (by omega) i2) ?_
            refine fst1_ok X (dk rfl) rfl ?_
            refine callV_ok (ci := 11) (T := TX9) (N := 3) (av := [vI y, .ref q1]) (r := []) X E (c_bind h3 M1 hy8 hq1 w1) lkX9_bind mlX9_42 lmX9_bind lpX9_bind ⟨by show 2 + 1 ≤ 2 * (f + 1) + 3; omega, by show 8 + (3 + 11) + 40 * 2 ≤ 40 * (2 * (f + 1) + 3); omega⟩ ⟨Nat.zero_le _, Nat.zero_le _⟩ rfl M1.1 (Nat.le_of_ble_eq_true rfl) (dk rfl) ?_
            rintro v h4 ⟨rfl, M4, F4⟩
            rw [e1] at M4
            refine br_ok X (dk rfl) rfl (show ((147 : Nat) : Int) + 28 = ((175 : Nat) : Int) from rfl) (fun _ => ?_) (fun q => absurd trivial q)
            exact ret9 _ _ M4 (F1.trans F4) _ _ (Nat.zero_le _) (Nat.zero_le _)
          | false =>
            have hy10 : ¬ y < 10 := of_decide_eq_false hfy.symm
            rw [if_neg hy10] at hG
            refine br_ok X (dk rfl) rfl (show ((135 : Nat) : Int) + 15 = ((150 : Nat) : Int) from rfl) (fun _ => ?_) (fun q => absurd bI_f' q)
            repeat refine fst1_ok X (dk rfl) rfl ?_
            refine ald_ok X (Or.inl ⟨rfl, rfl⟩) (dk rfl) hq1 (inA_nI (j := 0) (by omega) i1) ?_
            repeat refine fst1_ok X (dk rfl) rfl ?_
            refine ald_ok X (Or.inl ⟨rfl, rfl⟩) (dk rfl) hq2 (inA_nI (j := 0) (by omega) i2) ?_
            refine br_ok X (dk rfl) rfl (show ((157 : Nat) : Int) + 11 = ((168 : Nat) : Int) from rfl) (fun c2 => ?_) (fun c2 => ?_)
            · have hxy : x = y := (nI_eq (by omega) (by omega)).mp c2
              rw [if_pos hxy] at hG
              subst hxy
              repeat refine fst1_ok X (dk rfl) rfl ?_
              refine callV_ok (ci := 11) (T := TX9) (N := 3) (av := [.ref q1, .ref q2]) (r := []) X E (c_goOn IH h3 M1 hq1 hq2 w1 w2 rfl rfl hG) lkX9_goOn mlX9_46 lmX9_goOn lpX9_goOn ⟨by show 2 * f + 4 + 1 ≤ 2 * (f + 1) + 3; omega, by show 8 + (6 + 11) + 40 * (2 * f + 4) ≤ 40 * (2 * (f + 1) + 3); omega⟩ ⟨by show 0 + Gc ≤ Gc; omega, by show 0 + Gn ≤ Gn; omega⟩ rfl M1.1 (Nat.le_of_ble_eq_true rfl) (dk rfl) ?_
              rintro v h4 ⟨rfl, M4, F4⟩
              exact ret9 _ _ M4 (F1.trans F4) _ _ (by show 0 + Gc ≤ Gc; omega) (by show 0 + Gn ≤ Gn; omega)
            · have hxy : x ≠ y := fun z => c2 (by rw [z])
              rw [if_neg hxy] at hG
              simp only [Option.some.injEq, Prod.mk.injEq] at hG
              obtain ⟨rfl, rfl, rfl, rfl, rfl⟩ := hG
              repeat refine fst1_ok X (dk rfl) rfl ?_
              refine putf_ok X flX9_25 ftX9_2 (Or.inl rfl) rfl rfl (dk rfl) M1.1 (Nat.le_of_ble_eq_true rfl) ?_
              refine br_ok X (dk rfl) rfl (show ((165 : Nat) : Int) + 10 = ((175 : Nat) : Int) from rfl) (fun _ => ?_) (fun q => absurd trivial q)
              exact ret9 _ _ (M1.fld (mm + 1) 1 (by decide)) (F1.set (Or.inl rfl) _) _ _ (Nat.zero_le _) (Nat.zero_le _)
      have second : ∀ (fx : Bool), fx = decide (x < 10) → ∀ l : List (Nat × Value), lsel l [5, 4, 3, 0] = [(5, .int (bI fx)), (4, .ref q2), (3, .ref q1), (0, .ref o9)] → WR p la e (rmD (2 * (f + 1) + 3) Gc Gn) s m args below meth c D cA B0 7 (goP o9 St h (Gs, Gm, Gw, Gc, Gn)) 46 l [] h3 0 0 := by
        intro fx hfx l hl
        refine WS.sel [5, 4, 3, 0] hl ?_
        repeat refine fst1_ok X (dk rfl) rfl ?_
        refine ald_ok X (Or.inl ⟨rfl, rfl⟩) (dk rfl) hq2 (inA_nI (j := 0) (by omega) i2) ?_
        refine fst1_ok X (dk rfl) rfl ?_
        refine br_ok X (dk rfl) rfl (show ((52 : Nat) : Int) + 7 = ((59 : Nat) : Int) from rfl) (fun c2 => ?_) (fun c2 => ?_)
        · rw [nI_10] at c2
          have hy10 : 10 ≤ y := nI_ge' (by omega) (by omega) c2
          iterate 2 refine fst1_ok X (dk rfl) rfl ?_
          exact mid fx false hfx (decide_eq_false (by omega)).symm _ rfl
        · rw [nI_10] at c2
          have hy10 : y < 10 := nI_lt' (by omega) (by omega) c2
          refine fst1_ok X (dk rfl) rfl ?_
          refine br_ok X (dk rfl) rfl (show ((56 : Nat) : Int) + 4 = ((60 : Nat) : Int) from rfl) (fun _ => ?_) (fun q => absurd trivial q)
          refine fst1_ok X (dk rfl) rfl ?_
          exact mid fx true hfx (decide_eq_true hy10).symm _ rfl
      repeat refine fst1_ok X (dk rfl) rfl ?_
      refine ald_ok X (Or.inl ⟨rfl, rfl⟩) (dk rfl) hq1 (inA_nI (j := 0) (by omega) i1) ?_
      refine fst1_ok X (dk rfl) rfl ?_
      refine br_ok X (dk rfl) rfl (show ((36 : Nat) : Int) + 7 = ((43 : Nat) : Int) from rfl) (fun c2 => ?_) (fun c2 => ?_)
      · rw [nI_10] at c2
        have hx10 : 10 ≤ x := nI_ge' (by omega) (by omega) c2
        iterate 2 refine fst1_ok X (dk rfl) rfl ?_
        exact second false (decide_eq_false (by omega)).symm _ rfl
      · rw [nI_10] at c2
        have hx10 : x < 10 := nI_lt' (by omega) (by omega) c2
        refine fst1_ok X (dk rfl) rfl ?_
        refine br_ok X (dk rfl) rfl (show ((40 : Nat) : Int) + 4 = ((44 : Nat) : Int) from rfl) (fun _ => ?_) (fun q => absurd trivial q)
        refine fst1_ok X (dk rfl) rfl ?_
        exact second true (decide_eq_true hx10).symm _ rfl
    · have hw0 : 0 < ww := by
        rcases Nat.eq_zero_or_pos ww with q | q
        · exact absurd (by rw [q]; decide) c1
        · exact q
      rw [if_pos hw0] at hG
      simp only [Option.some.injEq, Prod.mk.injEq] at hG
      obtain ⟨rfl, rfl, rfl, rfl, rfl⟩ := hG
      exact retv_ok X hr hlk (dk rfl) ⟨rfl, M, Fs.rf h⟩ (Nat.zero_le _) (Nat.zero_le _)
end M51
end U51st4
section U52st5
/-! Object's constructor, the constructor of steps -/
theorem li_obj : Cond.instanceMethod Lib.objectInit ∈ WT := WT_of (tbw_1 (List.mem_of_getElem? (i := 35) rfl)) rfl
theorem lc_obj : Cond.code Lib.objectInit ⟨#[0xb1]⟩ 1 none ∈ WT := WT_of (tbw_1 (List.mem_of_getElem? (i := 36) rfl)) rfl
theorem ml9_obj : Cond.methodLink RX9 3 Lib.objectInit ∈ WT := WT_of (tbw_7 (List.mem_of_getElem? (i := 27) rfl)) rfl
theorem ml8_obj : Cond.methodLink RX8 3 Lib.objectInit ∈ WT := WT_of (tbw_7 (List.mem_of_getElem? (i := 71) rfl)) rfl
theorem ml10_obj : Cond.methodLink RX10 1 Lib.objectInit ∈ WT := WT_of (tbw_6 (List.mem_of_getElem? (i := 77) rfl)) rfl
theorem cl9_9 : Cond.classLink RX9 9 (cnm (aty 105)) ∈ WT := by rw [aty105]; exact WT_of (tbw_7 (List.mem_of_getElem? (i := 28) rfl)) rfl
section M52
variable {p : Program} {la : Launch} {e : Env} {R : Room} {s : State} {m : MethodId} {args : Array Value} {below : List Frame} {meth : Method} {c : Code} {Q : State → Prop}
variable {D : va_G} {cA : Nat → ClassId} {B0 pa nL : Nat} {cc : ByteArray} {own : String} {pc k n : Nat} {l : List (Nat × Value)} {r : List Value} {h : AH}
theorem obj_ok (X : CX p s m args c D cA B0 nL cc own) {idx a : Nat} (hl : Cond.methodLink own idx Lib.objectInit ∈ WT) (hd : decode cc pc = .ok (.invokespecial idx, 3)) (hfr : 1 ≤ R.frames) (hW : (r.map fun v => v.category).sum ≤ 8) (hlo : 20 ≤ R.locals)
    (kk : WS p la e R s m args below meth c Q D cA B0 nL (pc + 3) l r h k n) : WS p la e R s m args below meth c Q D cA B0 nL pc l (.ref a :: r) h k n := by
  intro H locs ls hH hls
  have hm := lv_room (m := m) (pc := pc) (ls := ls) (rest := (.ref a :: r)) (st := r) hW
  exact W.objInit X.1 X.2.1 X.2.2.2.1 (X.2.2.2.2.1 _ hl) (X.2.2.2.2.1 _ li_obj) (X.2.2.2.2.1 _ lc_obj) rfl (X.2.2.1.trans hls.1.symm).symm rfl hd hfr (by omega) (kk H locs ls hH hls)
end M52
section M52b
variable {la : Launch} {D : va_G} {cA : Nat → ClassId} {B0 pa : Nat}
def none8 : SM := List.replicate 8 none
theorem TT_none8 : TT none8 := ⟨by simp [none8], fun r hr => by simp [none8] at hr⟩
/-- outside one cell all stays -/
def Fo (o : Nat) (h h' : AH) : Prop := ∀ (b : Nat) (c : AC), b ≠ o → h b = some c → h' b = some c
set_option maxHeartbeats 8000000 in
theorem c_stepsInit (h : AH) {o9 u1 u2 F : Nat} {one other : List Nat} {G : GS} (ho : h o9 = some (11, [.null, .int 0, .int 0])) (hu1 : h u1 = some (IA one)) (hu2 : h u2 = some (IA other)) (t1 : TW one ∧ one.length ≤ 16) (t2 : TW other ∧ other.length ≤ 16) (hG : goF F one other none8 0 0 = some G) :
    CT la D cA B0 pa yX9_init cX9_init 3 none (rmD (2 * F + 4) (1 + G.2.2.2.1) (8 + G.2.2.2.2)) [.ref o9, .ref u1, .ref u2] h (fun v h' => v = none ∧ (∃ St, h St = none ∧ SI h' o9 St G.1 G.2.1 G.2.2.1) ∧ Fo o9 h h') := by
  refine CT_of (by decide +kernel) (Nat.le_of_ble_eq_true rfl) ?_
  intro p e s m args below meth c X E hr hlk hnm
  have dk : ∀ {pc : Nat} {q : Instr × Nat}, lkd DX9_init pc = some q → decode cX9_init pc = .ok q := lkd_ok DX9_init_ok
  repeat refine fst1_ok X (dk rfl) rfl ?_
  refine obj_ok X ml9_obj (dk rfl) (by show 1 ≤ 2 * F + 4; omega) (Nat.le_of_ble_eq_true rfl) (by show 20 ≤ 40 * (2 * F + 4); omega) ?_
  repeat refine fst1_ok X (dk rfl) rfl ?_
  refine newR_ok (N := 8) (kd := 105) X E (by decide) cl9_9 (by decide) (dk rfl) (by show 0 + 1 ≤ 1 + G.2.2.2.1; omega) (by show 0 + 8 ≤ 8 + G.2.2.2.2; omega) (fun T hT hBT => ?_)
  have XT := Ext.new hT ((105, List.replicate 8 Value.null) : AC)
  refine putf_ok X flX9_11 ftX9_0 (Or.inr ⟨by rw [hnm]; rfl, RX9, TX9, 3, rfl, rfl⟩) rfl rfl (dk rfl) (XT _ _ ho) (Nat.le_of_ble_eq_true rfl) ?_
  have hoT : T ≠ o9 := fun z => by rw [z, ho] at hT; cases hT
  have M0 : SI (hup (hup h T (105, List.replicate 8 Value.null)) o9 (11, [Value.null, .int 0, .int 0].set 0 (.ref T))) o9 T none8 0 0 := by
    refine ⟨hup_self _ _ _, ⟨List.replicate 8 none, by simp, by simp [none8], ?_, fun k r hk => ?_, fun k hk => ?_⟩, TT_none8, by decide⟩
    · rw [hup_ne _ _ hoT, hup_self]
      rfl
    · exact absurd (List.mem_of_getElem? hk) (by simp [none8])
    · have h8 : k < 8 := by simpa [none8] using (List.getElem?_eq_some_iff.mp hk).1
      rw [List.getElem?_replicate, if_pos h8]
  have F0' : Fo o9 h (hup (hup h T (105, List.replicate 8 Value.null)) o9 (11, [Value.null, .int 0, .int 0].set 0 (.ref T))) := fun b c hb e => by
    rw [hup_ne _ _ hb]
    exact XT _ _ e
  generalize hup (hup h T (105, List.replicate 8 Value.null)) o9 (11, [Value.null, .int 0, .int 0].set 0 (.ref T)) = h1 at M0 F0'
  have k1 := F0' u1 _ (k_ne hu1 ho (by decide)) hu1
  have k2 := F0' u2 _ (k_ne hu2 ho (by decide)) hu2
  repeat refine fst1_ok X (dk rfl) rfl ?_
  refine callV_ok (ci := 11) (T := TX9) (N := 3) (av := [.ref u1, .ref u2]) (r := []) X E (c_go F h1 none8 0 0 u1 u2 one other G M0 k1 k2 t1 t2 hG) lkX9_go mlX9_17 lmX9_go lpX9_go ⟨by show 2 * F + 3 + 1 ≤ 2 * F + 4; omega, by show 8 + (7 + 11) + 40 * (2 * F + 3) ≤ 40 * (2 * F + 4); omega⟩ ⟨by show 0 + 1 + G.2.2.2.1 ≤ 1 + G.2.2.2.1; omega, by show 0 + 8 + G.2.2.2.2 ≤ 8 + G.2.2.2.2; omega⟩ rfl M0.1 (Nat.le_of_ble_eq_true rfl) (dk rfl) ?_
  rintro v h2 ⟨rfl, M2, F2⟩
  refine retv_ok X hr hlk (dk rfl) ⟨rfl, ⟨T, hT, M2⟩, fun b c hb e => ?_⟩ (by show 0 + 1 + G.2.2.2.1 ≤ 1 + G.2.2.2.1; omega) (by show 0 + 8 + G.2.2.2.2 ≤ 8 + G.2.2.2.2; omega)
  exact F2 b c hb (fun z => by rw [z, hT] at e; cases e) (F0' b c hb e)
end M52b
end U52st5
section U53h8
/-! the constructor of the reference; steps, why, under a bound -/
theorem cl10_15 : Cond.classLink RX10 15 (cnm (aty 106)) ∈ WT := by rw [aty106]; exact WT_of (tbw_6 (List.mem_of_getElem? (i := 80) rfl)) rfl
theorem nc10_157 : NC RX10 157 11 [.null, .int 0, .int 0] := by
  refine ⟨RX9, TX9, 3, tyX9, rfl, cwX9, tyX9_ok, rfl, fun j hj => ?_, WT_of (by decide +kernel) rfl, WT_of (by decide +kernel) rfl, liX9⟩
  match j, hj with
  | 0, _ => rfl
  | 1, _ => rfl
  | 2, _ => rfl
/-- what a bound on the steps says: fuel, cells and slots are enough for any two terms -/
def GoB (F C N : Nat) : Prop := ∀ one other : List Nat, (TW one ∧ one.length ≤ 16) → (TW other ∧ other.length ≤ 16) → ∃ G : GS, goF F one other none8 0 0 = some G ∧ G.2.2.2.1 ≤ C ∧ G.2.2.2.2 ≤ N
theorem Fo.ext {q : Nat} {h h' : AH} (hq : h q = none) (F : Fo q h h') : Ext h h' := fun b c e => F b c (fun z => by rw [z, hq] at e; cases e) e
section M39
variable {la : Launch} {D : va_G} {cA : Nat → ClassId} {B0 pa : Nat} {o S A : Nat} {sl : List (List Nat)} {an : List (List (List Nat))} {a r kn th : Int32}
end M39
end U53h8
section U54st6
/-! what is told of a term in the end: whole, answer -/
/-- what stands for the letter at a place -/
def stAt (sm : SM) (xs : List Nat) (at' : Nat) : Option (List Nat) := if xs.getD at' 10 < 10 then sm.getD (xs.getD at' 10) none else none
/-- the row in the end, cells, slots -/
def whF : Nat → SM → List Nat → Nat → Option (List Nat × Nat × Nat)
  | 0, _, _, _ => none
  | f + 1, sm, xs, at' => if at' < xs.length ∧ xs.length ≤ 16 then (match stAt sm xs at' with
      | some t => (match whF f sm (xs.take at' ++ t ++ xs.drop (at' + 1)) at' with
        | some (r, c, n) => some (r, 4 + c, 80 + n)
        | none => none)
      | none => whF f sm xs (at' + 1)) else some (xs, 0, 0)
def whP (h : AH) (r : List Nat) (v : Option Value) (h' : AH) : Prop := Ext h h' ∧ ((16 < r.length ∧ v = some .null) ∨ (r.length ≤ 16 ∧ TW r ∧ ∃ q, v = some (.ref q) ∧ h' q = some (IA r)))
section M54
variable {la : Launch} {D : va_G} {cA : Nat → ClassId} {B0 pa : Nat} {o9 St : Nat} {sm : SM} {mm ww : Nat}
set_option maxHeartbeats 16000000 in
theorem c_whole (h : AH) (M : SI h o9 St sm mm ww) {u f C N : Nat} {xs r : List Nat} (hu : h u = some (IA xs)) (hx : TW xs ∧ xs.length ≤ 32) (hf : whF f sm xs 0 = some (r, C, N)) : CT la D cA B0 pa yX9_whole cX9_whole 4 (some (.array .int)) (rmD 1 C N) [.ref o9, .ref u] h (whP h r) := by
  refine CT_of (by decide +kernel) (Nat.le_of_ble_eq_true rfl) ?_
  intro p e s m args below meth c X E hr hlk hnm
  have dk : ∀ {pc : Nat} {q : Instr × Nat}, lkd DX9_whole pc = some q → decode cX9_whole pc = .ok q := lkd_ok DX9_whole_ok
  have loop : ∀ (f : Nat) (xs : List Nat) (at' u : Nat) (cz nz : Nat) (hh : AH) (k0 n0 : Nat) (l : List (Nat × Value)), lsel l [3, 2, 0] = [(3, vI at'), (2, .ref u), (0, .ref o9)] → at' ≤ xs.length → hh u = some (IA xs) → TW xs ∧ xs.length ≤ 32 → Ext h hh → whF f sm xs at' = some (r, cz, nz) → k0 + cz = C → n0 + nz = N →
      WR p la e (rmD 1 C N) s m args below meth c D cA B0 4 (whP h r) 4 l [] hh k0 n0 := by
    intro f
    induction f with
    | zero => intro xs at' u cz nz hh k0 n0 l hl ha hu hx XX hf hk hn; simp [whF] at hf
    | succ f ih =>
      intro xs at' u cz nz hh k0 n0 l hl ha hu hx XX hf hk hn
      have lx : (xs.map vI).length = xs.length := List.length_map _
      unfold whF at hf
      have fin9 : r = xs → k0 ≤ C → n0 ≤ N → ∀ l : List (Nat × Value), lsel l [2] = [(2, .ref u)] → WR p la e (rmD 1 C N) s m args below meth c D cA B0 4 (whP h r) 75 l [] hh k0 n0 := by
        intro hrx hkC hnN l hl
        subst hrx
        refine WS.sel [2] hl ?_
        refine fst1_ok X (dk rfl) rfl ?_
        refine alen_ok X (by decide) (dk rfl) hu ?_
        rw [lx]
        refine fst1_ok X (dk rfl) rfl ?_
        refine br_ok X (dk rfl) rfl (show ((79 : Nat) : Int) + 7 = ((86 : Nat) : Int) from rfl) (fun c1 => ?_) (fun c1 => ?_)
        · rw [nI_16] at c1
          have h16 : r.length ≤ 16 := (nI_leI (by omega) (by omega)).mp c1
          repeat refine fst1_ok X (dk rfl) rfl ?_
          exact reta_ok X hr hlk (Or.inr ⟨_, rfl⟩) (Or.inr ⟨_, rfl⟩) (dk rfl) ⟨XX, Or.inr ⟨h16, hx.1, u, rfl, hu⟩⟩ hkC hnN
        · rw [nI_16] at c1
          have h16 : 16 < r.length := nI_lt' (by omega) (by omega) c1
          refine fst1_ok X (dk rfl) rfl ?_
          refine br_ok X (dk rfl) rfl (show ((83 : Nat) : Int) + 4 = ((87 : Nat) : Int) from rfl) (fun _ => ?_) (fun q => absurd trivial q)
          exact reta_ok X hr hlk (Or.inr ⟨_, rfl⟩) (Or.inl rfl) (dk rfl) ⟨XX, Or.inl ⟨h16, rfl⟩⟩ hkC hnN
      refine WS.sel [3, 2, 0] hl ?_
      repeat refine fst1_ok X (dk rfl) rfl ?_
      refine alen_ok X (by decide) (dk rfl) hu ?_
      rw [lx]
      refine br_ok X (dk rfl) rfl (show ((7 : Nat) : Int) + 68 = ((75 : Nat) : Int) from rfl) (fun c1 => ?_) (fun c1 => ?_)
      · have hge : xs.length ≤ at' := nI_ge' (by omega) (by omega) c1
        rw [if_neg (by omega)] at hf
        simp only [Option.some.injEq, Prod.mk.injEq] at hf
        obtain ⟨rfl, rfl, rfl⟩ := hf
        exact fin9 rfl (by omega) (by omega) _ rfl
      · have hlt : at' < xs.length := nI_lt' (by omega) (by omega) c1
        refine fst1_ok X (dk rfl) rfl ?_
        refine alen_ok X (by decide) (dk rfl) hu ?_
        rw [lx]
        refine fst1_ok X (dk rfl) rfl ?_
        refine br_ok X (dk rfl) rfl (show ((14 : Nat) : Int) + 61 = ((75 : Nat) : Int) from rfl) (fun c2 => ?_) (fun c2 => ?_)
        · rw [nI_16] at c2
          have hgt : 16 < xs.length := (nI_ltI (by omega) (by omega)).mp c2
          rw [if_neg (by omega)] at hf
          simp only [Option.some.injEq, Prod.mk.injEq] at hf
          obtain ⟨rfl, rfl, rfl⟩ := hf
          exact fin9 rfl (by omega) (by omega) _ rfl
        · rw [nI_16] at c2
          have hle : xs.length ≤ 16 := by
            rcases Nat.lt_or_ge 16 xs.length with q | q
            · exact absurd ((nI_ltI (by omega) (by omega)).mpr q) c2
            · exact q
          rw [if_pos ⟨hlt, hle⟩] at hf
          obtain ⟨x, hx0⟩ : ∃ x, xs[at']? = some x := ⟨xs[at']'hlt, by simp⟩
          have hxo := hx.1.2 x (List.mem_of_getElem? hx0)
          have hx18 := hxo.lt
          have hxd : xs.getD at' 10 = x := by rw [List.getD_eq_getElem?_getD, hx0]; rfl
          have M1 := M.ext XX
          unfold stAt at hf
          rw [hxd] at hf
          have next9 : whF f sm xs (at' + 1) = some (r, cz, nz) → ∀ l : List (Nat × Value), lsel l [3, 2, 0] = [(3, vI at'), (2, .ref u), (0, .ref o9)] → WR p la e (rmD 1 C N) s m args below meth c D cA B0 4 (whP h r) 69 l [] hh k0 n0 := by
            intro hf l hl
            refine WS.sel [3, 2, 0] hl ?_
            repeat refine fst1_ok X (dk rfl) rfl ?_
            refine br_ok X (dk rfl) rfl (show ((72 : Nat) : Int) + (-68) = ((4 : Nat) : Int) from rfl) (fun _ => ?_) (fun q => absurd trivial q)
            have f2 : Value.int (nI at' + Int32.ofInt 1) = vI (at' + 1) := congrArg Value.int (by rw [nI_1', nI_add])
            refine WS.sel (l' := [(3, vI (at' + 1)), (2, .ref u), (0, .ref o9)]) [3, 2, 0] (by rw [← f2]; rfl) ?_
            exact ih xs (at' + 1) u cz nz hh k0 n0 _ rfl (by omega) hu hx XX hf hk hn
          repeat refine fst1_ok X (dk rfl) rfl ?_
          refine ald_ok X (Or.inl ⟨rfl, rfl⟩) (dk rfl) hu (inA_nI (by omega) (IA_get hx0)) ?_
          refine fst1_ok X (dk rfl) rfl ?_
          refine br_ok X (dk rfl) rfl (show ((22 : Nat) : Int) + 47 = ((69 : Nat) : Int) from rfl) (fun c3 => ?_) (fun c3 => ?_)
          · rw [nI_10] at c3
            have hx10 : 10 ≤ x := nI_ge' (by omega) (by omega) c3
            rw [if_neg (by omega)] at hf
            exact next9 hf _ rfl
          · rw [nI_10] at c3
            have hx10 : x < 10 := nI_lt' (by omega) (by omega) c3
            have hx8 : x < 8 := by rcases hxo with q | q <;> omega
            rw [if_pos hx10] at hf
            obtain ⟨os, ov, t1, t2, t3, t4⟩ := M1.2.1.get hx8
            refine fst1_ok X (dk rfl) rfl ?_
            refine getf_ok X flX9_11 (dk rfl) M1.1 rfl ?_
            repeat refine fst1_ok X (dk rfl) rfl ?_
            refine ald_ok X (Or.inl ⟨rfl, rfl⟩) (dk rfl) hu (inA_nI (by omega) (IA_get hx0)) ?_
            refine ald_ok X (Or.inr (Or.inr ⟨rfl, by decide⟩)) (dk rfl) t1 (inA_nI (v := va_rf ov) (by omega) (by rw [List.getElem?_map, t3]; rfl)) ?_
            rcases t4 with ⟨rfl, e1⟩ | ⟨b, t', rfl, e1, e2⟩
            · rw [e1] at hf
              refine br_ok X (dk rfl) rfl (show ((33 : Nat) : Int) + 36 = ((69 : Nat) : Int) from rfl) (fun _ => ?_) (fun c3 => absurd trivial c3)
              exact next9 hf _ rfl
            · rw [e1] at hf
              dsimp only at hf
              have tt := M.2.2.1.get e1
              cases hg : whF f sm (xs.take at' ++ t' ++ xs.drop (at' + 1)) at' with
              | none => rw [hg] at hf; cases hf
              | some g =>
              obtain ⟨r2, c2, n2⟩ := g
              rw [hg] at hf
              simp only [Option.some.injEq, Prod.mk.injEq] at hf
              obtain ⟨rfl, e4, e5⟩ := hf
              have hend : endL 1 (xs.drop at') = some 1 := by
                rw [drop_cons hx0]
                have hp : pF x = 0 := by unfold pF; rw [if_pos hx10]
                simp [endL, hp]
              have tg := hx.1.graft tt.1 hlt hend
              refine br_ok X (dk rfl) rfl (show ((33 : Nat) : Int) + 36 = ((69 : Nat) : Int) from rfl) (fun c3 => absurd c3 (fun z => z)) (fun _ => ?_)
              repeat refine fst1_ok X (dk rfl) rfl ?_
              refine callSN_ok (av := [.ref u, vI 0, vI at']) (r := []) X E (c_piece hh (f := 0) (t := at') hu (Nat.zero_le _) (by omega) (by omega) rfl) lkX10_piece mnX9_65 lsX10_piece ⟨Nat.le_of_ble_eq_true rfl, Nat.le_of_ble_eq_true rfl⟩ ⟨by show k0 + 1 ≤ C; omega, by show n0 + (at' - 0) ≤ N; omega⟩ (Nat.le_of_ble_eq_true rfl) (dk rfl) ?_
              rintro v h2 ⟨q1, rfl, hq1, hB1, rfl⟩
              have X1 := Ext.new hq1 (IA ((xs.drop 0).take (at' - 0)))
              have l1 : ((xs.drop 0).take (at' - 0)).length = at' := by rw [List.length_take, List.drop_zero]; omega
              refine WS.widen (k' := k0 + 1) (n' := n0 + at') (Nat.le_refl _) (by show n0 + (at' - 0) ≤ n0 + at'; omega) ?_
              refine fst1_ok X (dk rfl) rfl ?_
              refine getf_ok X flX9_11 (dk rfl) (X1 _ _ M1.1) rfl ?_
              repeat refine fst1_ok X (dk rfl) rfl ?_
              refine ald_ok X (Or.inl ⟨rfl, rfl⟩) (dk rfl) (X1 _ _ hu) (inA_nI (by omega) (IA_get hx0)) ?_
              refine ald_ok X (Or.inr (Or.inr ⟨rfl, by decide⟩)) (dk rfl) (X1 _ _ t1) (inA_nI (v := .ref b) (by omega) (by rw [List.getElem?_map, t3]; rfl)) ?_
              refine callSN_ok (av := [.ref q1, .ref b]) (r := []) X E (c_joined _ (hup_self _ _ _) (X1 _ _ e2) (by rw [l1]; omega) (by omega)) lkX10_joined mnX9_69 lsX10_joined ⟨Nat.le_of_ble_eq_true rfl, Nat.le_of_ble_eq_true rfl⟩ ⟨by show k0 + 1 + 1 ≤ C; omega, by show n0 + at' + (((xs.drop 0).take (at' - 0)).length + t'.length) ≤ N; rw [l1]; omega⟩ (Nat.le_of_ble_eq_true rfl) (dk rfl) ?_
              rintro v h3 ⟨q2, rfl, hq2, hB2, rfl⟩
              have X2 := X1.trans (Ext.new hq2 (IA ((xs.drop 0).take (at' - 0) ++ t')))
              have l2 : ((xs.drop 0).take (at' - 0) ++ t').length = at' + t'.length := by rw [List.length_append, l1]
              refine WS.widen (k' := k0 + 2) (n' := n0 + at' + (at' + t'.length)) (Nat.le_refl _) (by show n0 + at' + (((xs.drop 0).take (at' - 0)).length + t'.length) ≤ n0 + at' + (at' + t'.length); rw [l1]; omega) ?_
              repeat refine fst1_ok X (dk rfl) rfl ?_
              refine alen_ok X (by decide) (dk rfl) (X2 _ _ hu) ?_
              rw [lx, nI_1', nI_add]
              refine callSN_ok (av := [.ref u, vI (at' + 1), vI xs.length]) (r := [.ref q2]) X E (c_piece _ (X2 _ _ hu) (by omega) (Nat.le_refl _) (by omega) rfl) lkX10_piece mnX9_65 lsX10_piece ⟨Nat.le_of_ble_eq_true rfl, Nat.le_of_ble_eq_true rfl⟩ ⟨by show k0 + 2 + 1 ≤ C; omega, by show n0 + at' + (at' + t'.length) + (xs.length - (at' + 1)) ≤ N; omega⟩ (Nat.le_of_ble_eq_true rfl) (dk rfl) ?_
              rintro v h4 ⟨q3, rfl, hq3, hB3, rfl⟩
              have X3 := X2.trans (Ext.new hq3 (IA ((xs.drop (at' + 1)).take (xs.length - (at' + 1)))))
              have l3 : ((xs.drop (at' + 1)).take (xs.length - (at' + 1))).length = xs.length - (at' + 1) := by rw [List.length_take, List.length_drop]; omega
              refine WS.widen (k' := k0 + 3) (n' := n0 + at' + (at' + t'.length) + (xs.length - (at' + 1))) (Nat.le_refl _) (Nat.le_refl _) ?_
              refine callSN_ok (av := [.ref q2, .ref q3]) (r := []) X E (c_joined _ (Ext.new hq3 _ _ _ (hup_self _ _ _)) (hup_self _ _ _) (by rw [l2]; omega) (by rw [l3]; omega)) lkX10_joined mnX9_69 lsX10_joined ⟨Nat.le_of_ble_eq_true rfl, Nat.le_of_ble_eq_true rfl⟩ ⟨by show k0 + 3 + 1 ≤ C; omega, by show n0 + at' + (at' + t'.length) + (xs.length - (at' + 1)) + (((xs.drop 0).take (at' - 0) ++ t').length + ((xs.drop (at' + 1)).take (xs.length - (at' + 1))).length) ≤ N; rw [l2, l3]; omega⟩ (Nat.le_of_ble_eq_true rfl) (dk rfl) ?_
              rintro v h5 ⟨q4, rfl, hq4, hB4, rfl⟩
              have e8 : (xs.drop (at' + 1)).take (xs.length - (at' + 1)) = xs.drop (at' + 1) := List.take_of_length_le (by rw [List.length_drop]; omega)
              have e9 : ((xs.drop 0).take (at' - 0) ++ t') ++ (xs.drop (at' + 1)).take (xs.length - (at' + 1)) = (xs.take at' ++ t') ++ xs.drop (at' + 1) := by rw [e8, List.drop_zero, Nat.sub_zero]
              have X4 := X3.trans (Ext.new hq4 (IA (((xs.drop 0).take (at' - 0) ++ t') ++ (xs.drop (at' + 1)).take (xs.length - (at' + 1)))))
              have hq4s := hup_self (hup (hup (hup hh q1 (IA ((xs.drop 0).take (at' - 0)))) q2 (IA ((xs.drop 0).take (at' - 0) ++ t'))) q3 (IA ((xs.drop (at' + 1)).take (xs.length - (at' + 1))))) q4 (IA (((xs.drop 0).take (at' - 0) ++ t') ++ (xs.drop (at' + 1)).take (xs.length - (at' + 1))))
              rw [e9] at hq4s
              refine WS.widen (k' := k0 + 4) (n' := n0 + 80) (Nat.le_refl _) (by show n0 + at' + (at' + t'.length) + (xs.length - (at' + 1)) + (((xs.drop 0).take (at' - 0) ++ t').length + ((xs.drop (at' + 1)).take (xs.length - (at' + 1))).length) ≤ n0 + 80; rw [l2, l3]; omega) ?_
              rw [e9] at X4 ⊢
              have lg : (xs.take at' ++ t' ++ xs.drop (at' + 1)).length = at' + t'.length + (xs.length - (at' + 1)) := by rw [List.length_append, List.length_append, List.length_take, List.length_drop, Nat.min_eq_left (by omega)]
              have tp := tt.1.pos
              refine fst1_ok X (dk rfl) rfl ?_
              refine br_ok X (dk rfl) rfl (show ((66 : Nat) : Int) + (-62) = ((4 : Nat) : Int) from rfl) (fun _ => ?_) (fun q => absurd trivial q)
              exact ih _ at' q4 c2 n2 _ (k0 + 4) (n0 + 80) _ rfl (by rw [lg]; omega) hq4s ⟨tg, by rw [lg]; omega⟩ (XX.trans X4) hg (by omega) (by omega)
  iterate 4 refine fst1_ok X (dk rfl) rfl ?_
  exact loop f xs 0 u C N h 0 0 _ rfl (Nat.zero_le _) hu hx (Ext.rf h) hf (Nat.zero_add _) (Nat.zero_add _)
end M54
end U54st6
section U56bd1
/-! the bound on the steps, 1: places of two terms behind each other -/
def BX (X : List Nat) : Prop := endL 2 X = some X.length ∧ (∀ x ∈ X, okL x) ∧ X.length ≤ 32
/-- the letter at a place, its parts, the place of a part -/
def gl (X : List Nat) (p : Nat) : Nat := X.getD p 0
def ga (X : List Nat) (p : Nat) : Nat := pF (gl X p)
def ko (X : List Nat) (p : Nat) : Nat → Nat
  | 0 => p + 1
  | j + 1 => ko X p j + tl X (ko X p j)
theorem dr_dr (X : List Nat) (a b : Nat) : (X.drop a).drop b = X.drop (a + b) := by rw [List.drop_drop]
theorem tl_of {X : List Nat} {p k : Nat} (h : endL 1 (X.drop p) = some k) : tl X p = k := by unfold tl; rw [h]; rfl
theorem gl_get {X : List Nat} {p : Nat} (hp : p < X.length) : X[p]? = some (gl X p) := by unfold gl; rw [List.getD_eq_getElem?_getD, List.getElem?_eq_getElem hp]; rfl
theorem gl_ok {X : List Nat} (hX : BX X) {p : Nat} (hp : p < X.length) : okL (gl X p) := hX.2.1 _ (List.mem_of_getElem? (gl_get hp))
theorem ga_name {X : List Nat} {p : Nat} (h : gl X p < 10) : ga X p = 0 := by unfold ga pF; rw [if_pos h]
theorem ga_le {X : List Nat} (hX : BX X) {p : Nat} (hp : p < X.length) : ga X p ≤ 3 := by
  have := (gl_ok hX hp).lt
  unfold ga pF
  split <;> omega
theorem bx_tl {X : List Nat} (hX : BX X) {p : Nat} (hp : p < X.length) : endL 1 (X.drop p) = some (tl X p) ∧ 0 < tl X p ∧ p + tl X p ≤ X.length := by
  obtain ⟨k, hk⟩ := endL_at X 2 p hX.1 hp
  have h1 := endL_le hk
  rw [List.length_drop] at h1
  rw [tl_of hk]
  exact ⟨hk, endL_pos (n := 0) hk, by omega⟩
theorem bx_ko {X : List Nat} (hX : BX X) {p : Nat} (hp : p < X.length) : ∀ j, j ≤ ga X p → ∃ k, endL j (X.drop (p + 1)) = some k ∧ ko X p j = p + 1 + k ∧ endL (ga X p - j) (X.drop (p + 1 + k)) = some (tl X p - 1 - k) ∧ k + 1 ≤ tl X p := by
  obtain ⟨h1, h2, h3⟩ := bx_tl hX hp
  intro j
  induction j with
  | zero =>
    intro _
    refine ⟨0, by simp [endL], rfl, ?_, h2⟩
    rw [drop_cons (gl_get hp)] at h1
    simp only [endL, Option.map_eq_some_iff, Nat.zero_add] at h1
    obtain ⟨i, hi, e⟩ := h1
    rw [Nat.sub_zero, Nat.add_zero]
    show endL (pF (gl X p)) _ = _
    rw [hi]
    congr 1
    omega
  | succ j ih =>
    intro hj
    obtain ⟨k, k1, k2, k3, k4⟩ := ih (by omega)
    rw [show ga X p - j = 1 + (ga X p - (j + 1)) by omega] at k3
    obtain ⟨i, i1, i2, i3⟩ := endL_add _ _ _ _ k3
    have i4 := endL_pos (n := 0) i1
    refine ⟨k + i, endL_join _ j 1 k i k1 (by rw [dr_dr]; exact i1), ?_, ?_, by omega⟩
    · show ko X p j + tl X (ko X p j) = _
      rw [k2, tl_of i1]
      omega
    · rw [dr_dr] at i3
      rw [show p + 1 + (k + i) = p + 1 + k + i by omega, i3]
      congr 1
      omega
theorem ko_mono {X : List Nat} (hX : BX X) {p : Nat} (hp : p < X.length) {j : Nat} (hj : j < ga X p) : p < ko X p j ∧ ko X p j < p + tl X p ∧ 0 < tl X (ko X p j) ∧ ko X p j + tl X (ko X p j) ≤ p + tl X p ∧ ko X p j < X.length := by
  obtain ⟨k, k1, k2, k3, k4⟩ := bx_ko hX hp j (by omega)
  obtain ⟨i, i1, i2, i3, i4⟩ := bx_ko hX hp (j + 1) (by omega)
  have e : ko X p (j + 1) = ko X p j + tl X (ko X p j) := rfl
  obtain ⟨h1, h2, h3⟩ := bx_tl hX hp
  have q : ko X p j < X.length := by
    rw [show ga X p - j = (ga X p - (j + 1)) + 1 by omega] at k3
    have := endL_pos k3
    omega
  have := (bx_tl hX q).2.1
  omega
theorem ko_last {X : List Nat} (hX : BX X) {p : Nat} (hp : p < X.length) : ko X p (ga X p) = p + tl X p := by
  obtain ⟨k, k1, k2, k3, k4⟩ := bx_ko hX hp (ga X p) (Nat.le_refl _)
  rw [Nat.sub_self] at k3
  simp only [endL, Option.some.injEq] at k3
  omega
theorem ko_lt {X : List Nat} (hX : BX X) {p : Nat} (hp : p < X.length) : ∀ {i j : Nat}, i < j → j ≤ ga X p → ko X p i + tl X (ko X p i) ≤ ko X p j
  | i, 0, h, _ => by omega
  | i, j + 1, h, hj => by
    have e : ko X p (j + 1) = ko X p j + tl X (ko X p j) := rfl
    rcases Nat.lt_or_ge i j with q | q
    · have := ko_lt hX hp q (by omega)
      omega
    · have : i = j := by omega
      subst this
      omega
theorem ko_inj {X : List Nat} (hX : BX X) {p : Nat} (hp : p < X.length) {i j : Nat} (hi : i < ga X p) (hj : j < ga X p) (h : ko X p i = ko X p j) : i = j := by
  rcases Nat.lt_trichotomy i j with q | q | q
  · have := ko_lt hX hp q (by omega)
    have := (ko_mono hX hp hi).2.2.1
    omega
  · exact q
  · have := ko_lt hX hp q (by omega)
    have := (ko_mono hX hp hj).2.2.1
    omega
/-- the part in which a place lies -/
theorem ko_find {X : List Nat} {p z : Nat} : ∀ n, ko X p 0 ≤ z → z < ko X p n → ∃ j, j < n ∧ ko X p j ≤ z ∧ z < ko X p (j + 1)
  | 0, h1, h2 => by omega
  | n + 1, h1, h2 => by
    rcases Nat.lt_or_ge z (ko X p n) with q | q
    · obtain ⟨j, a, b, c⟩ := ko_find n h1 q
      exact ⟨j, by omega, b, c⟩
    · exact ⟨n, by omega, q, h2⟩
theorem tl_in {X : List Nat} (hX : BX X) {p z : Nat} (hp : p < X.length) (h1 : p ≤ z) (h2 : z < p + tl X p) : z + tl X z ≤ p + tl X p := by
  obtain ⟨e1, e2, e3⟩ := bx_tl hX hp
  have e4 := endL_take _ _ _ e1
  have l4 : ((X.drop p).take (tl X p)).length = tl X p := by rw [List.length_take, List.length_drop]; omega
  obtain ⟨k, hk⟩ := endL_at ((X.drop p).take (tl X p)) 1 (z - p) (by rw [e4, l4]) (by omega)
  have h3 := endL_le hk
  rw [List.length_drop, l4] at h3
  rw [List.drop_take] at hk
  have h4 := endL_app _ ((((X.drop p).drop (z - p))).drop (tl X p - (z - p))) _ _ hk
  rw [List.take_append_drop, dr_dr, show p + (z - p) = z by omega] at h4
  rw [tl_of h4]
  omega
/-- each place within has one that it is a part of -/
theorem par_ex {X : List Nat} (hX : BX X) : ∀ (n p z : Nat), tl X p ≤ n → p < X.length → p < z → z < p + tl X p → ∃ a j, p ≤ a ∧ a < z ∧ a < p + tl X p ∧ a < X.length ∧ j < ga X a ∧ ko X a j = z
  | 0, p, z, hn, hp, h1, h2 => by omega
  | n + 1, p, z, hn, hp, h1, h2 => by
    obtain ⟨j, j1, j2, j3⟩ := ko_find (X := X) (p := p) (ga X p) (show p + 1 ≤ z by omega) (by rw [ko_last hX hp]; exact h2)
    obtain ⟨k1, k2, k3, k4, k5⟩ := ko_mono hX hp j1
    rcases Nat.eq_or_lt_of_le j2 with q | q
    · exact ⟨p, j, Nat.le_refl _, h1, by omega, hp, j1, q⟩
    · obtain ⟨a, i, a1, a2, a3, a4, a5, a6⟩ := par_ex hX n (ko X p j) z (by omega) k5 q j3
      exact ⟨a, i, by omega, a2, by omega, a4, a5, a6⟩
theorem par_un1 {X : List Nat} (hX : BX X) {a j a' j' : Nat} (ha : a < X.length) (ha' : a' < X.length) (hj : j < ga X a) (hj' : j' < ga X a') (h : ko X a j = ko X a' j') (hlt : a < a') : False := by
  obtain ⟨k1, k2, k3, k4, k5⟩ := ko_mono hX ha hj
  obtain ⟨i1, i2, i3, i4, i5⟩ := ko_mono hX ha' hj'
  obtain ⟨t, t1, t2, t3⟩ := ko_find (X := X) (p := a) (z := a') j (show a + 1 ≤ a' by omega) (by omega)
  obtain ⟨m1, m2, m3, m4, m5⟩ := ko_mono hX ha (show t < ga X a by omega)
  have := tl_in hX m5 t2 t3
  have := ko_lt hX ha t1 (by omega)
  omega
theorem par_un {X : List Nat} (hX : BX X) {a j a' j' : Nat} (ha : a < X.length) (ha' : a' < X.length) (hj : j < ga X a) (hj' : j' < ga X a') (h : ko X a j = ko X a' j') : a = a' ∧ j = j' := by
  have e : a = a' := by
    rcases Nat.lt_trichotomy a a' with q | q | q
    · exact absurd (par_un1 hX ha ha' hj hj' h q) (fun z => z)
    · exact q
    · exact absurd (par_un1 hX ha' ha hj' hj h.symm q) (fun z => z)
  subst e
  exact ⟨rfl, ko_inj hX ha hj hj' h⟩
end U56bd1
section U57bd2
/-! the bound on the steps, 2: weights of names, sizes with all that names stand for -/
def sJ (f : Nat → Nat) : Nat → Nat
  | 0 => 0
  | n + 1 => sJ f n + f n
theorem sJ_congr {f g : Nat → Nat} : ∀ {n : Nat}, (∀ i, i < n → f i = g i) → sJ f n = sJ g n
  | 0, _ => rfl
  | n + 1, h => by
    show sJ f n + f n = sJ g n + g n
    rw [sJ_congr (fun i hi => h i (by omega)), h n (by omega)]
theorem sJ_le {f g : Nat → Nat} : ∀ {n : Nat}, (∀ i, i < n → f i ≤ g i) → sJ f n ≤ sJ g n
  | 0, _ => Nat.le_refl _
  | n + 1, h => by
    show sJ f n + f n ≤ sJ g n + g n
    have := sJ_le (f := f) (g := g) (n := n) (fun i hi => h i (by omega))
    have := h n (by omega)
    omega
theorem sJ_add (f : Nat → Nat) (m : Nat) : ∀ n, sJ f (m + n) = sJ f m + sJ (fun i => f (m + i)) n
  | 0 => rfl
  | n + 1 => by
    show sJ f (m + n) + f (m + n) = sJ f m + (sJ (fun i => f (m + i)) n + f (m + n))
    rw [sJ_add f m n, Nat.add_assoc]
theorem sJ_mem {f : Nat → Nat} : ∀ {n i : Nat}, i < n → f i ≤ sJ f n
  | n + 1, i, h => by
    show f i ≤ sJ f n + f n
    rcases Nat.lt_or_ge i n with q | q
    · have := sJ_mem (f := f) q
      omega
    · have : i = n := by omega
      subst this
      omega
theorem sJ_upd {f g : Nat → Nat} {k : Nat} : ∀ {n : Nat}, k < n → (∀ i, i ≠ k → f i = g i) → sJ f n + g k = sJ g n + f k
  | n + 1, h, e => by
    show sJ f n + f n + g k = sJ g n + g n + f k
    rcases Nat.lt_or_ge k n with q | q
    · have := sJ_upd q e
      have := e n (by omega)
      omega
    · have : k = n := by omega
      subst this
      rw [sJ_congr (f := f) (g := g) (fun i hi => e i (by omega))]
      omega
def wl (b : Nat) (w : Nat → Nat) (x : Nat) : Nat := if x < 10 then w x else if pF x = 0 then b else 1
def uI (X : List Nat) (b : Nat) (w : Nat → Nat) (p n : Nat) : Nat := sJ (fun i => wl b w (gl X (p + i))) n
/-- the size of the term at a place, with all that names stand for -/
def uP (X : List Nat) (b : Nat) (w : Nat → Nat) (p : Nat) : Nat := uI X b w p (tl X p)
theorem ga_pos {X : List Nat} {p : Nat} (h : 0 < ga X p) : 10 ≤ gl X p ∧ ∀ b w, wl b w (gl X p) = 1 := by
  have h1 : 10 ≤ gl X p := by
    rcases Nat.lt_or_ge (gl X p) 10 with q | q
    · rw [ga_name q] at h
      omega
    · exact q
  refine ⟨h1, fun b w => ?_⟩
  unfold wl
  rw [if_neg (by omega), if_neg (by unfold ga at h; omega)]
theorem uP_kids {X : List Nat} (hX : BX X) {b : Nat} {w : Nat → Nat} {p : Nat} (hp : p < X.length) : uP X b w p = wl b w (gl X p) + sJ (fun j => uP X b w (ko X p j)) (ga X p) := by
  have key : ∀ j, j ≤ ga X p → uI X b w (p + 1) (ko X p j - (p + 1)) = sJ (fun j => uP X b w (ko X p j)) j := by
    intro j
    induction j with
    | zero => intro _; show uI X b w (p + 1) (p + 1 - (p + 1)) = 0; rw [Nat.sub_self]; rfl
    | succ j ih =>
      intro hj
      obtain ⟨k1, k2, k3, k4, k5⟩ := ko_mono hX hp (show j < ga X p by omega)
      have e : ko X p (j + 1) - (p + 1) = (ko X p j - (p + 1)) + tl X (ko X p j) := by
        show ko X p j + tl X (ko X p j) - (p + 1) = _
        omega
      rw [e]
      unfold uI
      rw [sJ_add]
      have h1 := ih (by omega)
      unfold uI at h1
      rw [h1]
      show _ = sJ _ j + uP X b w (ko X p j)
      congr 1
      unfold uP uI
      refine sJ_congr (fun i _ => ?_)
      rw [show p + 1 + (ko X p j - (p + 1) + i) = ko X p j + i by omega]
  have h1 := key (ga X p) (Nat.le_refl _)
  rw [ko_last hX hp] at h1
  rw [← h1]
  have h2 := (bx_tl hX hp).2.1
  unfold uP uI
  rw [show tl X p = 1 + (p + tl X p - (p + 1)) by omega, sJ_add]
  congr 1
  · show 0 + wl b w (gl X (p + 0)) = _
    rw [Nat.add_zero, Nat.zero_add]
  · rw [show p + (1 + (p + tl X p - (p + 1))) - (p + 1) = p + tl X p - (p + 1) by omega]
    refine sJ_congr (fun i _ => ?_)
    rw [show p + (1 + i) = p + 1 + i by omega]
theorem uP_head {X : List Nat} (hX : BX X) {b : Nat} {w : Nat → Nat} {p : Nat} (hp : p < X.length) (h : 0 < ga X p) : uP X b w p = 1 + sJ (fun j => uP X b w (ko X p j)) (ga X p) := by rw [uP_kids hX hp, (ga_pos h).2]
theorem uP_leaf {X : List Nat} (hX : BX X) {b : Nat} {w : Nat → Nat} {p : Nat} (hp : p < X.length) (h : ga X p = 0) : uP X b w p = wl b w (gl X p) := by rw [uP_kids hX hp, h]; rfl
theorem uP_kid {X : List Nat} (hX : BX X) {b : Nat} {w : Nat → Nat} {p j : Nat} (hp : p < X.length) (h : j < ga X p) : uP X b w (ko X p j) < uP X b w p := by
  rw [uP_head hX hp (by omega)]
  have := sJ_mem (f := fun j => uP X b w (ko X p j)) h
  omega
theorem uP_in {X : List Nat} (hX : BX X) {b : Nat} {w : Nat → Nat} : ∀ (n p z : Nat), tl X p ≤ n → p < X.length → p ≤ z → z < p + tl X p → uP X b w z ≤ uP X b w p ∧ (z ≠ p → uP X b w z < uP X b w p)
  | 0, p, z, hn, hp, h1, h2 => by omega
  | n + 1, p, z, hn, hp, h1, h2 => by
    rcases Nat.eq_or_lt_of_le h1 with q | q
    · subst q
      exact ⟨Nat.le_refl _, fun h => absurd rfl h⟩
    · obtain ⟨j, j1, j2, j3⟩ := ko_find (X := X) (p := p) (ga X p) (show p + 1 ≤ z by omega) (by rw [ko_last hX hp]; exact h2)
      obtain ⟨k1, k2, k3, k4, k5⟩ := ko_mono hX hp j1
      have := (uP_in hX n (ko X p j) z (by omega) k5 j2 j3 (b := b) (w := w)).1
      have := uP_kid hX (b := b) (w := w) hp j1
      exact ⟨by omega, fun _ => by omega⟩
theorem uP_congr {X : List Nat} {b : Nat} {w w' : Nat → Nat} {p : Nat} (h : ∀ i, i < tl X p → gl X (p + i) < 10 → w (gl X (p + i)) = w' (gl X (p + i))) : uP X b w p = uP X b w' p := by
  refine sJ_congr (fun i hi => ?_)
  show wl b w (gl X (p + i)) = wl b w' (gl X (p + i))
  unfold wl
  split
  · exact h i hi (by assumption)
  · rfl
abbrev SS : Type := Nat → Option Nat
/-- weights of names, as what they stand for has it -/
def VW (X : List Nat) (S : SS) (b : Nat) (w : Nat → Nat) : Prop := (∀ x, b ≤ w x) ∧ ∀ x q, S x = some q → w x = uP X b w q
/-- no name stands within itself -/
def Ac (X : List Nat) (S : SS) : Prop := ∃ (rk : Nat → Nat) (K : Nat), (∀ x, rk x < K) ∧ ∀ x q, S x = some q → ∀ i, i < tl X q → gl X (q + i) < 10 → rk (gl X (q + i)) < rk x
def wF (X : List Nat) (S : SS) (b : Nat) (f : Nat → Nat) : Nat → Nat → Nat
  | 0, x => f x
  | k + 1, x => match S x with
    | some q => uP X b (wF X S b f k) q
    | none => f x
theorem wF_stable {X : List Nat} {S : SS} {b : Nat} {f rk : Nat → Nat} (h : ∀ x q, S x = some q → ∀ i, i < tl X q → gl X (q + i) < 10 → rk (gl X (q + i)) < rk x) : ∀ k x, rk x < k → wF X S b f (k + 1) x = wF X S b f k x
  | 0, x, hx => by omega
  | k + 1, x, hx => by
    show (match S x with | some q => uP X b (wF X S b f (k + 1)) q | none => f x) = (match S x with | some q => uP X b (wF X S b f k) q | none => f x)
    split
    · rename_i q hq
      refine uP_congr (fun i hi hg => ?_)
      have := h x q hq i hi hg
      exact wF_stable h k _ (by omega)
    · rfl
theorem uP_ge {X : List Nat} (hX : BX X) {b : Nat} {w : Nat → Nat} (hb : b ≤ 1) (hw : ∀ x, b ≤ w x) {p : Nat} (hp : p < X.length) : b ≤ uP X b w p := by
  have h := (bx_tl hX hp).2.1
  have := sJ_mem (f := fun i => wl b w (gl X (p + i))) h
  refine Nat.le_trans ?_ this
  show b ≤ wl b w (gl X (p + 0))
  unfold wl
  split
  · exact hw _
  · split
    · exact Nat.le_refl _
    · exact hb
theorem VW_ex {X : List Nat} (hX : BX X) {S : SS} (hA : Ac X S) (hS : ∀ x q, S x = some q → q < X.length) {b : Nat} {f : Nat → Nat} (hb : b ≤ 1) (hf : ∀ x, b ≤ f x) : ∃ w, VW X S b w ∧ ∀ x, S x = none → w x = f x := by
  obtain ⟨rk, K, h1, h2⟩ := hA
  have hge : ∀ k x, b ≤ wF X S b f k x := by
    intro k
    induction k with
    | zero => exact hf
    | succ k ih =>
      intro x
      show b ≤ (match S x with | some q => uP X b (wF X S b f k) q | none => f x)
      split
      · rename_i q hq
        exact uP_ge hX hb ih (hS x q hq)
      · exact hf x
  refine ⟨wF X S b f K, ⟨hge K, fun x q hq => ?_⟩, fun x hx => ?_⟩
  · rw [← wF_stable h2 K x (h1 x)]
    show (match S x with | some q => uP X b (wF X S b f K) q | none => f x) = _
    rw [hq]
  · rw [← wF_stable h2 K x (h1 x)]
    show (match S x with | some q => uP X b (wF X S b f K) q | none => f x) = _
    rw [hx]
def upS (S : SS) (x t : Nat) : SS := fun y => if y = x then some t else S y
theorem upS_self (S : SS) (x t : Nat) : upS S x t x = some t := by simp [upS]
theorem upS_ne (S : SS) {x y : Nat} (t : Nat) (h : y ≠ x) : upS S x t y = S y := by simp [upS, h]
theorem Ac_bind {X : List Nat} {S : SS} (hA : Ac X S) {C : Nat → Prop} {x t : Nat} (h1 : ∀ z q, C z → S z = some q → ∀ i, i < tl X q → gl X (q + i) < 10 → C (gl X (q + i))) (h2 : ¬ C x) (h3 : ∀ i, i < tl X t → gl X (t + i) < 10 → C (gl X (t + i))) : Ac X (upS S x t) := by
  obtain ⟨rk, K, k1, k2⟩ := hA
  have dec : ∀ z, Decidable (C z) := fun z => Classical.propDecidable _
  refine ⟨fun z => if C z then rk z else rk z + K, K + K, fun z => ?_, fun z q hz i hi hg => ?_⟩
  · have := k1 z
    show (if C z then rk z else rk z + K) < K + K
    split <;> omega
  · show (if C (gl X (q + i)) then rk (gl X (q + i)) else rk (gl X (q + i)) + K) < (if C z then rk z else rk z + K)
    by_cases e : z = x
    · subst e
      rw [upS_self] at hz
      cases hz
      rw [if_pos (h3 i hi hg), if_neg h2]
      have := k1 (gl X (t + i))
      omega
    · rw [upS_ne _ _ e] at hz
      have h4 := k2 z q hz i hi hg
      by_cases c : C z
      · rw [if_pos c, if_pos (h1 z q c hz i hi hg)]
        exact h4
      · rw [if_neg c]
        split <;> omega
/-- weights of what stands now were weights before -/
theorem VW_up {X : List Nat} {S S' : SS} (h : ∀ x q, S x = some q → S' x = some q) {b : Nat} {w : Nat → Nat} (v : VW X S' b w) : VW X S b w := ⟨v.1, fun x q hq => v.2 x q (h x q hq)⟩
end U57bd2
section U58bd3
/-! the bound on the steps, 3: what a name stands for, by places; rows of places -/
def dpF (X : List Nat) (S : SS) : Nat → Nat → Nat
  | 0, p => p
  | f + 1, p => if gl X p < 10 then (match S (gl X p) with
    | some q => dpF X S f q
    | none => p) else p
def dp (X : List Nat) (S : SS) (p : Nat) : Nat := dpF X S 9 p
def S1 (X : List Nat) (S : SS) : Prop := ∀ x q, S x = some q → x < 8 ∧ q < X.length ∧ (gl X q < 10 → gl X q < x)
def smO (X : List Nat) (S : SS) : SM := (List.range 8).map (fun x => (S x).map (sub' X))
theorem smO_get (X : List Nat) (S : SS) {x : Nat} (hx : x < 8) : (smO X S).getD x none = (S x).map (sub' X) := by
  unfold smO
  rw [List.getD_eq_getElem?_getD, List.getElem?_map, List.getElem?_range hx]
  rfl
theorem smO_set (X : List Nat) (S : SS) {x : Nat} (hx : x < 8) (t : Nat) : (smO X S).set x (some (sub' X t)) = smO X (upS S x t) := by
  refine List.ext_getElem? (fun i => ?_)
  unfold smO
  by_cases h : i = x
  · subst h
    rw [List.getElem?_set_self (by simp; omega), List.getElem?_map, List.getElem?_range hx]
    show some (some (sub' X t)) = some ((upS S i t i).map (sub' X))
    rw [upS_self]
    rfl
  · rw [List.getElem?_set_ne (Ne.symm h), List.getElem?_map, List.getElem?_map]
    rcases Nat.lt_or_ge i 8 with q | q
    · rw [List.getElem?_range q]
      show some ((S i).map (sub' X)) = some ((upS S x t i).map (sub' X))
      rw [upS_ne _ _ h]
    · rw [List.getElem?_eq_none (by simpa using q)]
      rfl
theorem sub_len {X : List Nat} (hX : BX X) {p : Nat} (hp : p < X.length) : (sub' X p).length = tl X p := by
  have := (bx_tl hX hp).2.2
  unfold sub'
  rw [List.length_take, List.length_drop]
  omega
theorem sub_cons {X : List Nat} (hX : BX X) {p : Nat} (hp : p < X.length) : sub' X p = gl X p :: (X.drop (p + 1)).take (tl X p - 1) := by
  have := (bx_tl hX hp).2.1
  unfold sub'
  rw [drop_cons (gl_get hp)]
  obtain ⟨n, hn⟩ : ∃ n, tl X p = n + 1 := ⟨tl X p - 1, by omega⟩
  rw [hn]
  rfl
theorem tl_leaf {X : List Nat} (hX : BX X) {p : Nat} (hp : p < X.length) (h : ga X p = 0) : tl X p = 1 := by
  have := ko_last hX hp
  rw [h] at this
  have : p + 1 = p + tl X p := this
  omega
theorem sub_leaf {X : List Nat} (hX : BX X) {p : Nat} (hp : p < X.length) (h : ga X p = 0) : sub' X p = [gl X p] := by
  rw [sub_cons hX hp, tl_leaf hX hp h]
  rfl
theorem gl_8 {X : List Nat} (hX : BX X) {p : Nat} (hp : p < X.length) (h : gl X p < 10) : gl X p < 8 := by
  rcases gl_ok hX hp with q | q <;> omega
theorem dpF_ok {X : List Nat} (hX : BX X) {S : SS} (hS : S1 X S) : ∀ f p, p < X.length → (gl X p < 10 → gl X p + 1 < f) → 0 < f → deepF f (smO X S) (sub' X p) = some (sub' X (dpF X S f p)) ∧ (gl X (dpF X S f p) < 10 → S (gl X (dpF X S f p)) = none) ∧ dpF X S f p < X.length
  | 0, p, hp, h1, h2 => by omega
  | f + 1, p, hp, h1, h2 => by
    by_cases hn : gl X p < 10
    · have h8 := gl_8 hX hp hn
      have e1 := sub_leaf hX hp (ga_name hn)
      have e2 : dpF X S (f + 1) p = (match S (gl X p) with | some q => dpF X S f q | none => p) := by
        show (if gl X p < 10 then _ else _) = _
        rw [if_pos hn]
      have e3 : deepF (f + 1) (smO X S) (sub' X p) = (match (S (gl X p)).map (sub' X) with | some t' => deepF f (smO X S) t' | none => some [gl X p]) := by
        rw [e1]
        show (if gl X p < 10 then _ else _) = _
        rw [if_pos hn, smO_get X S h8] <;> rfl
      rw [e2, e3]
      cases hq : S (gl X p) with
      | none =>
        refine ⟨?_, fun _ => hq, hp⟩
        show some [gl X p] = some (sub' X p)
        rw [e1]
      | some q =>
        obtain ⟨q1, q2, q3⟩ := hS _ _ hq
        have := h1 hn
        exact dpF_ok hX hS f q q2 (fun z => by have := q3 z; omega) (by omega)
    · have e2 : dpF X S (f + 1) p = p := by
        show (if gl X p < 10 then _ else _) = _
        rw [if_neg hn]
      rw [e2]
      refine ⟨?_, fun z => absurd z hn, hp⟩
      rw [sub_cons hX hp]
      generalize (X.drop (p + 1)).take (tl X p - 1) = a
      cases a with
      | nil =>
        show (if gl X p < 10 then _ else _) = _
        rw [if_neg hn]
      | cons y a => rfl
theorem dpF_head {X : List Nat} {S : SS} {p : Nat} (h : ¬ gl X p < 10) : ∀ f, dpF X S f p = p
  | 0 => rfl
  | f + 1 => by
    show (if gl X p < 10 then _ else _) = _
    rw [if_neg h]
theorem dpF_ext {X : List Nat} {S : SS} (hS : S1 X S) : ∀ f f' p, (gl X p < 10 → gl X p < f ∧ gl X p < f') → dpF X S f p = dpF X S f' p
  | 0, f', p, h => by
    by_cases z : gl X p < 10
    · have := h z
      omega
    · rw [dpF_head z, dpF_head z]
  | f + 1, 0, p, h => by
    by_cases z : gl X p < 10
    · have := h z
      omega
    · rw [dpF_head z, dpF_head z]
  | f + 1, f' + 1, p, h => by
    show (if gl X p < 10 then _ else _) = (if gl X p < 10 then _ else _)
    split
    · rename_i hn
      split
      · rename_i q hq
        obtain ⟨q1, q2, q3⟩ := hS _ _ hq
        have := h hn
        refine dpF_ext hS f f' q (fun z => ?_)
        have := q3 z
        omega
      · rfl
    · rfl
theorem dp_name {X : List Nat} (hX : BX X) {S : SS} (hS : S1 X S) {p q : Nat} (hp : p < X.length) (hn : gl X p < 10) (hq : S (gl X p) = some q) : dp X S p = dp X S q := by
  have h8 := gl_8 hX hp hn
  obtain ⟨q1, q2, q3⟩ := hS _ _ hq
  show (if gl X p < 10 then _ else _) = _
  rw [if_pos hn, hq]
  exact dpF_ext hS 8 9 q (fun z => by have := q3 z; omega)
theorem dp_free {X : List Nat} {S : SS} {p : Nat} (hq : gl X p < 10 → S (gl X p) = none) : dp X S p = p := by
  show (if gl X p < 10 then _ else _) = _
  split
  · rename_i h
    rw [hq h]
  · rfl
theorem dp_ok {X : List Nat} (hX : BX X) {S : SS} (hS : S1 X S) {p : Nat} (hp : p < X.length) : deepF 9 (smO X S) (sub' X p) = some (sub' X (dp X S p)) ∧ (gl X (dp X S p) < 10 → S (gl X (dp X S p)) = none) ∧ dp X S p < X.length :=
  dpF_ok hX hS 9 p hp (fun z => by have := gl_8 hX hp z; omega) (by omega)
theorem dp_U {X : List Nat} (hX : BX X) {S : SS} (hS : S1 X S) {b : Nat} {w : Nat → Nat} (hw : VW X S b w) : ∀ n p, gl X p < n → p < X.length → uP X b w (dp X S p) = uP X b w p
  | 0, p, h, hp => by omega
  | n + 1, p, h, hp => by
    by_cases hn : gl X p < 10
    · cases hq : S (gl X p) with
      | none => rw [dp_free (fun _ => hq)]
      | some q =>
        obtain ⟨q1, q2, q3⟩ := hS _ _ hq
        rw [dp_name hX hS hp hn hq]
        have e : uP X b w p = uP X b w q := by
          rw [uP_leaf hX hp (ga_name hn), ← hw.2 _ _ hq]
          unfold wl
          rw [if_pos hn]
        rw [e]
        by_cases hn2 : gl X q < 10
        · have := q3 hn2
          exact dp_U hX hS hw n q (by omega) q2
        · rw [dp_free (fun z => absurd z hn2)]
    · rw [dp_free (fun z => absurd z hn)]
theorem S1_up {X : List Nat} {S : SS} (hS : S1 X S) {x t : Nat} (hx : x < 8) (ht : t < X.length) (h : gl X t < 10 → gl X t < x) : S1 X (upS S x t) := by
  intro y q hq
  by_cases e : y = x
  · subst e
    rw [upS_self] at hq
    cases hq
    exact ⟨hx, ht, h⟩
  · rw [upS_ne _ _ e] at hq
    exact hS y q hq
theorem dp_up {X : List Nat} (hX : BX X) {S : SS} (hS : S1 X S) {x t : Nat} (hx : x < 8) (ht : t < X.length) (h : gl X t < 10 → gl X t < x) (hfx : S x = none) (hft : gl X t < 10 → S (gl X t) = none) : ∀ n p, gl X p < n → p < X.length → dp X (upS S x t) p = if gl X (dp X S p) = x then t else dp X S p
  | 0, p, hn, hp => by omega
  | n + 1, p, hn, hp => by
    have hS' := S1_up hS hx ht h
    have hdt : dp X (upS S x t) t = t := dp_free (fun z => by rw [upS_ne _ _ (by have := h z; omega)]; exact hft z)
    by_cases hg : gl X p < 10
    · cases hq : S (gl X p) with
      | none =>
        rw [dp_free (S := S) (fun _ => hq)]
        by_cases e : gl X p = x
        · rw [if_pos e, dp_name hX hS' hp hg (show upS S x t (gl X p) = some t by rw [e]; exact upS_self _ _ _), hdt]
        · rw [if_neg e, dp_free (fun _ => by rw [upS_ne _ _ e]; exact hq)]
      | some q =>
        obtain ⟨q1, q2, q3⟩ := hS _ _ hq
        have hne : gl X p ≠ x := fun z => by rw [z, hfx] at hq; cases hq
        rw [dp_name hX hS' hp hg (show upS S x t (gl X p) = some q by rw [upS_ne _ _ hne]; exact hq), dp_name hX hS hp hg hq]
        by_cases hn2 : gl X q < 10
        · have := q3 hn2
          exact dp_up hX hS hx ht h hfx hft n q (by omega) q2
        · rw [dp_free (S := S) (fun z => absurd z hn2), dp_free (S := upS S x t) (fun z => absurd z hn2), if_neg (by omega)]
    · rw [dp_free (S := S) (fun z => absurd z hg), dp_free (S := upS S x t) (fun z => absurd z hg), if_neg (by omega)]
/-- a term within a row -/
theorem sub_sub {X : List Nat} (hX : BX X) {p z : Nat} (hp : p < X.length) (h1 : p ≤ z) (h2 : z < p + tl X p) : tl (sub' X p) (z - p) = tl X z ∧ sub' (sub' X p) (z - p) = sub' X z := by
  obtain ⟨e1, e2, e3⟩ := bx_tl hX hp
  have hz : z < X.length := by omega
  obtain ⟨z1, z2, z3⟩ := bx_tl hX hz
  have h3 := tl_in hX hp h1 h2
  have d1 : (sub' X p).drop (z - p) = (X.drop z).take (tl X p - (z - p)) := by
    unfold sub'
    rw [List.drop_take, dr_dr, show p + (z - p) = z by omega]
  have d2 : ((X.drop z).take (tl X p - (z - p))).take (tl X z) = (X.drop z).take (tl X z) := by
    rw [List.take_take, Nat.min_eq_left (by omega)]
  have k1 : endL 1 ((sub' X p).drop (z - p)) = some (tl X z) := by
    have a1 := endL_app _ (((X.drop z).take (tl X p - (z - p))).drop (tl X z)) _ _ (endL_take _ _ _ z1)
    rw [← d2, List.take_append_drop] at a1
    rw [d1]
    exact a1
  refine ⟨tl_of k1, ?_⟩
  show ((sub' X p).drop (z - p)).take (tl (sub' X p) (z - p)) = _
  rw [tl_of k1, d1, d2]
  rfl
/-- X is a term and another one behind it -/
def BY (X : List Nat) (n1 : Nat) : Prop := BX X ∧ 0 < n1 ∧ tl X 0 = n1 ∧ n1 < X.length ∧ n1 + tl X n1 = X.length ∧ n1 ≤ 16 ∧ tl X n1 ≤ 16
theorem BY.tl16 {X : List Nat} {n1 : Nat} (h : BY X n1) {p : Nat} (hp : p < X.length) : tl X p ≤ 16 := by
  obtain ⟨hX, h1, h2, h3, h4, h5, h6⟩ := h
  rcases Nat.lt_or_ge p n1 with q | q
  · have := tl_in hX (show 0 < X.length by omega) (Nat.zero_le p) (by omega)
    show _ ≤ _
    omega
  · have := tl_in hX h3 q (by omega)
    show _ ≤ _
    omega
end U58bd3
section U59bd4
/-! the bound on the steps, 4: what comes together -/
abbrev PL2 : Type := List (Nat × Nat)
/-- in one class by these pairs -/
def Gn (P : PL2) (x y : Nat) : Prop := ∀ Rl : Nat → Nat → Prop, (∀ a, Rl a a) → (∀ a b, Rl a b → Rl b a) → (∀ a b c, Rl a b → Rl b c → Rl a c) → (∀ q ∈ P, Rl q.1 q.2) → Rl x y
theorem Gn.rf (P : PL2) (x : Nat) : Gn P x x := fun _ h1 _ _ _ => h1 x
theorem Gn.sy {P : PL2} {x y : Nat} (h : Gn P x y) : Gn P y x := fun Rl h1 h2 h3 h4 => h2 _ _ (h Rl h1 h2 h3 h4)
theorem Gn.tr {P : PL2} {x y z : Nat} (h : Gn P x y) (g : Gn P y z) : Gn P x z := fun Rl h1 h2 h3 h4 => h3 _ _ _ (h Rl h1 h2 h3 h4) (g Rl h1 h2 h3 h4)
theorem Gn.of {P : PL2} {q : Nat × Nat} (h : q ∈ P) : Gn P q.1 q.2 := fun _ _ _ _ h4 => h4 q h
theorem Gn.mono {P P' : PL2} {x y : Nat} (h : Gn P x y) (hP : ∀ q ∈ P, q ∈ P') : Gn P' x y := fun Rl h1 h2 h3 h4 => h Rl h1 h2 h3 (fun q hq => h4 q (hP q hq))
def Ap (X : List Nat) (S : SS) (dn : PL2) (p q : Nat) : Prop := gl X (dp X S p) = gl X (dp X S q) ∧ (ga X (dp X S p) = 0 ∨ Gn dn (dp X S p) (dp X S q))
theorem ga_eq {X : List Nat} {p q : Nat} (h : gl X p = gl X q) : ga X p = ga X q := by unfold ga; rw [h]
theorem Ap.rf (X : List Nat) (S : SS) (dn : PL2) (p : Nat) : Ap X S dn p p := ⟨rfl, Or.inr (Gn.rf _ _)⟩
theorem Ap.sy {X : List Nat} {S : SS} {dn : PL2} {p q : Nat} (h : Ap X S dn p q) : Ap X S dn q p := ⟨h.1.symm, h.2.elim (fun z => Or.inl (by rw [← ga_eq h.1]; exact z)) (fun z => Or.inr z.sy)⟩
theorem Ap.tr {X : List Nat} {S : SS} {dn : PL2} {p q r : Nat} (h : Ap X S dn p q) (g : Ap X S dn q r) : Ap X S dn p r := by
  refine ⟨h.1.trans g.1, ?_⟩
  rcases h.2 with z | z
  · exact Or.inl z
  · rcases g.2 with y | y
    · exact Or.inl (by rw [ga_eq h.1]; exact y)
    · exact Or.inr (z.tr y)
/-- pairs that are through: their parts are alike -/
def Cl (X : List Nat) (S : SS) (dn : PL2) : Prop := ∀ q ∈ dn, q.1 < X.length ∧ q.2 < X.length ∧ gl X q.1 = gl X q.2 ∧ ∀ j, j < ga X q.1 → Ap X S dn (ko X q.1 j) (ko X q.2 j)
theorem Cl.gn {X : List Nat} {S : SS} {dn : PL2} (h : Cl X S dn) {x y : Nat} (g : Gn dn x y) : (x < X.length ↔ y < X.length) ∧ gl X x = gl X y ∧ ∀ j, j < ga X x → Ap X S dn (ko X x j) (ko X y j) := by
  refine g (fun x y => (x < X.length ↔ y < X.length) ∧ gl X x = gl X y ∧ ∀ j, j < ga X x → Ap X S dn (ko X x j) (ko X y j)) (fun a => ⟨Iff.rfl, rfl, fun j _ => Ap.rf _ _ _ _⟩) (fun a b q => ⟨q.1.symm, q.2.1.symm, fun j hj => (q.2.2 j (by rw [ga_eq q.2.1]; exact hj)).sy⟩) (fun a b c q r => ⟨q.1.trans r.1, q.2.1.trans r.2.1, fun j hj => (q.2.2 j hj).tr (r.2.2 j (by rw [← ga_eq q.2.1]; exact hj))⟩) (fun q hq => ?_)
  obtain ⟨h1, h2, h3, h4⟩ := h q hq
  exact ⟨⟨fun _ => h2, fun _ => h1⟩, h3, h4⟩
theorem Ap_U {X : List Nat} (hX : BX X) {S : SS} (hS : S1 X S) {dn : PL2} (hC : Cl X S dn) {b : Nat} {w : Nat → Nat} (hw : VW X S b w) : ∀ n p q, uP X b w p ≤ n → p < X.length → q < X.length → Ap X S dn p q → uP X b w p = uP X b w q := by
  intro n
  induction n with
  | zero =>
    intro p q hn hp hq h
    obtain ⟨d1, d2, d3⟩ := dp_ok hX hS hp
    obtain ⟨e1, e2, e3⟩ := dp_ok hX hS hq
    rw [← dp_U hX hS hw _ p (Nat.lt_succ_self _) hp, ← dp_U hX hS hw _ q (Nat.lt_succ_self _) hq]
    rw [← dp_U hX hS hw _ p (Nat.lt_succ_self _) hp] at hn
    rcases Nat.eq_zero_or_pos (ga X (dp X S p)) with z | z
    · rw [uP_leaf hX d3 z, uP_leaf hX e3 (by rw [← ga_eq h.1]; exact z), h.1]
    · rw [uP_head hX d3 z] at hn
      omega
  | succ n ih =>
    intro p q hn hp hq h
    obtain ⟨d1, d2, d3⟩ := dp_ok hX hS hp
    obtain ⟨e1, e2, e3⟩ := dp_ok hX hS hq
    rw [← dp_U hX hS hw _ p (Nat.lt_succ_self _) hp, ← dp_U hX hS hw _ q (Nat.lt_succ_self _) hq]
    rw [← dp_U hX hS hw _ p (Nat.lt_succ_self _) hp] at hn
    rcases Nat.eq_zero_or_pos (ga X (dp X S p)) with z | z
    · rw [uP_leaf hX d3 z, uP_leaf hX e3 (by rw [← ga_eq h.1]; exact z), h.1]
    · rcases h.2 with y | y
      · omega
      · have g := hC.gn y
        rw [uP_head hX d3 z, uP_head hX e3 (by rw [← ga_eq h.1]; exact z), ← ga_eq h.1]
        congr 1
        refine sJ_congr (fun j hj => ?_)
        have := uP_kid hX (b := b) (w := w) d3 hj
        exact ih _ _ (by omega) (ko_mono hX d3 hj).2.2.2.2 (ko_mono hX e3 (by rw [← ga_eq h.1]; exact hj)).2.2.2.2 (g.2.2 j hj)
theorem Gn_U {X : List Nat} (hX : BX X) {S : SS} (hS : S1 X S) {dn : PL2} (hC : Cl X S dn) {b : Nat} {w : Nat → Nat} (hw : VW X S b w) {x y : Nat} (hx : x < X.length) (g : Gn dn x y) : uP X b w x = uP X b w y := by
  obtain ⟨h1, h2, h3⟩ := hC.gn g
  have hy := h1.mp hx
  rw [uP_kids hX hx, uP_kids hX hy, h2, ga_eq h2]
  congr 1
  refine sJ_congr (fun j hj => ?_)
  have hj' : j < ga X x := by rw [ga_eq h2]; exact hj
  exact Ap_U hX hS hC hw _ _ _ (Nat.le_refl _) (ko_mono hX hx hj').2.2.2.2 (ko_mono hX hy hj).2.2.2.2 (h3 j hj')
/-- what is alike stays so -/
theorem Ap.up {X : List Nat} (hX : BX X) {S : SS} (hS : S1 X S) {x t : Nat} (hx : x < 8) (ht : t < X.length) (h : gl X t < 10 → gl X t < x) (hfx : S x = none) (hft : gl X t < 10 → S (gl X t) = none) {dn : PL2} {p q : Nat} (hp : p < X.length) (hq : q < X.length) (a : Ap X S dn p q) : Ap X (upS S x t) dn p q := by
  unfold Ap
  rw [dp_up hX hS hx ht h hfx hft _ p (Nat.lt_succ_self _) hp, dp_up hX hS hx ht h hfx hft _ q (Nat.lt_succ_self _) hq]
  obtain ⟨a1, a2⟩ := a
  by_cases e : gl X (dp X S p) = x
  · rw [if_pos e, if_pos (by rw [← a1]; exact e)]
    exact ⟨rfl, Or.inr (Gn.rf _ _)⟩
  · rw [if_neg e, if_neg (by rw [← a1]; exact e)]
    exact ⟨a1, a2⟩
theorem Ap.mono {X : List Nat} {S : SS} {dn dn' : PL2} (hd : ∀ q ∈ dn, q ∈ dn') {p q : Nat} (a : Ap X S dn p q) : Ap X S dn' p q := ⟨a.1, a.2.imp id (fun g => g.mono hd)⟩
/-- so many unlike numbers are below n -/
theorem nodup_le : ∀ (n : Nat) (l : List Nat), l.Nodup → (∀ x ∈ l, x < n) → l.length ≤ n
  | 0, [], _, _ => Nat.le_refl _
  | 0, x :: l, _, h => absurd (h x List.mem_cons_self) (Nat.not_lt_zero _)
  | n + 1, l, hd, h => by
    by_cases z : n ∈ l
    · have h1 := nodup_le n (l.erase n) (hd.erase n) (fun x hx => by
        have := (List.Nodup.mem_erase_iff hd).mp hx
        have := h x this.2
        omega)
      rw [List.length_erase_of_mem z] at h1
      omega
    · have := nodup_le n l hd (fun x hx => by
        have := h x hx
        have : x ≠ n := fun e => z (e ▸ hx)
        omega)
      omega
/-! a pair that is alike already: nothing changes, and it takes as many steps as its size -/
theorem goF_0 (f : Nat) (one other : List Nat) (sm : SM) (m : Nat) {x y : Nat} {a b : List Nat} (h1 : deepF 9 sm one = some (x :: a)) (h2 : deepF 9 sm other = some (y :: b)) : goF (f + 1) one other sm m 0 =
      if x < 10 then (if y < 10 then some (if x = y then sm else sm.set (max x y) (some (if x < y then x :: a else y :: b)), m + 1, 0, 0, 0) else some (bindF sm (m + 1) 0 x (y :: b)))
      else if y < 10 then some (bindF sm (m + 1) 0 y (x :: a))
      else if x = y then goOnF (goF f) (pF x) (x :: a) (y :: b) 1 1 sm (m + 1) 0 else some (sm, m + 1, 1, 0, 0) := by
  show (if 0 < 0 then _ else _) = _
  rw [if_neg (Nat.lt_irrefl 0), h1, h2]
theorem goF_skip (f : Nat) (one other : List Nat) (sm : SM) (m : Nat) {w : Nat} (hw : 0 < w) : goF (f + 1) one other sm m w = some (sm, m, w, 0, 0) := by
  show (if 0 < w then _ else _) = _
  rw [if_pos hw]
def RWk (X : List Nat) (S : SS) (p : Nat) (f : Nat) (q : Nat) (m : Nat) : Prop := ∃ c1 c0 C n, goF f (sub' X p) (sub' X q) (smO X S) m 0 = some (smO X S, m + c1, 0, C, n) ∧ C + 2 = 2 * c1 ∧ n ≤ 30 * c0 ∧ (∀ w, VW X S 1 w → c1 ≤ uP X 1 w p) ∧ (∀ w, VW X S 0 w → c0 ≤ uP X 0 w p)
set_option maxHeartbeats 4000000 in
theorem rwalk {X : List Nat} {n1 : Nat} (hY : BY X n1) {S : SS} (hS : S1 X S) {dn : PL2} (hC : Cl X S dn) {wz : Nat → Nat} (hz : VW X S 1 wz) : ∀ (f p q m : Nat) (ch : List Nat), p < X.length → q < X.length → Ap X S dn p q → ch.Nodup → (∀ c ∈ ch, c < X.length ∧ uP X 1 wz p < uP X 1 wz c) → 34 ≤ f + ch.length → RWk X S p f q m := by
  have hX := hY.1
  intro f
  induction f with
  | zero =>
    intro p q m ch hp hq hA hd hch hf
    have := nodup_le X.length ch hd (fun c hc => (hch c hc).1)
    have := hX.2.2
    omega
  | succ f ih =>
    intro p q m ch hp hq hA hd hch hf
    obtain ⟨d1, d2, d3⟩ := dp_ok hX hS hp
    obtain ⟨e1, e2, e3⟩ := dp_ok hX hS hq
    have up : ∀ b w, VW X S b w → uP X b w (dp X S p) = uP X b w p := fun b w hw => dp_U hX hS hw _ p (Nat.lt_succ_self _) hp
    obtain ⟨hA1, hA2⟩ := hA
    have g0 := goF_0 f (sub' X p) (sub' X q) (smO X S) m (d1.trans (congrArg some (sub_cons hX d3))) (e1.trans (congrArg some (sub_cons hX e3)))
    rw [← sub_cons hX d3, ← sub_cons hX e3] at g0
    obtain ⟨p', hp'⟩ : ∃ p', p' = dp X S p := ⟨_, rfl⟩
    obtain ⟨q', hq'⟩ : ∃ q', q' = dp X S q := ⟨_, rfl⟩
    rw [← hp'] at d2 d3 up hA1 hA2 g0
    rw [← hq'] at e2 e3 hA1 hA2 g0
    have wl1 : ∀ w, VW X S 1 w → ∀ x, 1 ≤ wl 1 w x := by
      intro w hw x
      unfold wl
      split
      · exact hw.1 x
      · split <;> exact Nat.le_refl _
    rw [← hA1] at g0
    by_cases hn : gl X p' < 10
    · rw [if_pos hn, if_pos hn, if_pos rfl] at g0
      refine ⟨1, 0, 0, 0, g0, rfl, Nat.le_refl _, fun w hw => ?_, fun w hw => Nat.zero_le _⟩
      rw [← up 1 w hw, uP_leaf hX d3 (ga_name hn)]
      exact wl1 w hw _
    · rw [if_neg hn, if_neg hn, if_pos rfl] at g0
      have hga : ga X q' = ga X p' := (ga_eq hA1).symm
      have loop : ∀ (k j m1 : Nat), j + k = ga X p' → ∃ c1 c0 C n, goOnF (goF f) k (sub' X p') (sub' X q') (ko X p' j - p') (ko X q' j - q') (smO X S) m1 0 = some (smO X S, m1 + c1, 0, C, n) ∧ C = 2 * c1 ∧ n + ko X p' j + ko X q' j ≤ (p' + tl X p') + (q' + tl X q') + 30 * c0 ∧
          (∀ w, VW X S 1 w → c1 + sJ (fun j => uP X 1 w (ko X p' j)) j ≤ sJ (fun j => uP X 1 w (ko X p' j)) (ga X p')) ∧ (∀ w, VW X S 0 w → c0 + sJ (fun j => uP X 0 w (ko X p' j)) j ≤ sJ (fun j => uP X 0 w (ko X p' j)) (ga X p')) := by
        intro k
        induction k with
        | zero =>
          intro j m1 hj
          have hj' : j = ga X p' := by omega
          have l1 := ko_last hX d3
          have l2 := ko_last hX e3
          rw [hga] at l2
          subst hj'
          refine ⟨0, 0, 0, 0, rfl, rfl, by omega, fun w _ => by omega, fun w _ => by omega⟩
        | succ k ihk =>
          intro j m1 hj
          have j1 : j < ga X p' := by omega
          have j2 : j < ga X q' := by omega
          obtain ⟨a1, a2, a3, a4, a5⟩ := ko_mono hX d3 j1
          obtain ⟨b1, b2, b3, b4, b5⟩ := ko_mono hX e3 j2
          obtain ⟨s1, s2⟩ := sub_sub hX d3 (show p' ≤ ko X p' j by omega) a2
          obtain ⟨t1, t2⟩ := sub_sub hX e3 (show q' ≤ ko X q' j by omega) b2
          have hAk : Ap X S dn (ko X p' j) (ko X q' j) := by
            rcases hA2 with z | z
            · omega
            · exact (hC.gn z).2.2 j j1
          have uz := up 1 wz hz
          have hk := uP_kid hX (b := 1) (w := wz) d3 j1
          obtain ⟨c1, c0, C, n, r1, r2, r3, r4, r5⟩ := ih (ko X p' j) (ko X q' j) m1 (p' :: ch) a5 b5 hAk (List.nodup_cons.mpr ⟨fun z => by have := (hch _ z).2; omega, hd⟩) (fun c hc => by
            rcases List.mem_cons.mp hc with z | z
            · rw [z]; exact ⟨d3, hk⟩
            · obtain ⟨z1, z2⟩ := hch c z
              exact ⟨z1, by omega⟩) (by rw [List.length_cons]; omega)
          obtain ⟨x1, x0, Y, y, u1, u2, u3, u4, u5⟩ := ihk (j + 1) (m1 + c1) (by omega)
          have k1 : ko X p' (j + 1) = ko X p' j + tl X (ko X p' j) := rfl
          have k2 : ko X q' (j + 1) = ko X q' j + tl X (ko X q' j) := rfl
          refine ⟨c1 + x1, c0 + x0, 2 + C + Y, tl X (ko X p' j) + tl X (ko X q' j) + n + y, ?_, by omega, by omega, fun w hw => ?_, fun w hw => ?_⟩
          · show (match goF f (sub' (sub' X p') (ko X p' j - p')) (sub' (sub' X q') (ko X q' j - q')) (smO X S) m1 0 with
              | none => none
              | some (sm1, m1, w1, c1, n1) => match goOnF (goF f) k (sub' X p') (sub' X q') (ko X p' j - p' + tl (sub' X p') (ko X p' j - p')) (ko X q' j - q' + tl (sub' X q') (ko X q' j - q')) sm1 m1 w1 with
                | none => none
                | some (sm2, m2, w2, c2, n2) => some (sm2, m2, w2, 2 + c1 + c2, tl (sub' X p') (ko X p' j - p') + tl (sub' X q') (ko X q' j - q') + n1 + n2)) = _
            rw [s2, t2, s1, t1, r1]
            dsimp only
            rw [show ko X p' j - p' + tl X (ko X p' j) = ko X p' (j + 1) - p' by omega, show ko X q' j - q' + tl X (ko X q' j) = ko X q' (j + 1) - q' by omega, u1]
            dsimp only
            rw [Nat.add_assoc]
          · have := u4 w hw
            have := r4 w hw
            have e : sJ (fun j => uP X 1 w (ko X p' j)) (j + 1) = sJ (fun j => uP X 1 w (ko X p' j)) j + uP X 1 w (ko X p' j) := rfl
            omega
          · have := u5 w hw
            have := r5 w hw
            have e : sJ (fun j => uP X 0 w (ko X p' j)) (j + 1) = sJ (fun j => uP X 0 w (ko X p' j)) j + uP X 0 w (ko X p' j) := rfl
            omega
      obtain ⟨c1, c0, C, n, r1, r2, r3, r4, r5⟩ := loop (ga X p') 0 (m + 1) (by omega)
      have k1 : ko X p' 0 = p' + 1 := rfl
      have k2 : ko X q' 0 = q' + 1 := rfl
      rw [k1, k2, show p' + 1 - p' = 1 by omega, show q' + 1 - q' = 1 by omega] at r1
      have g1 := g0.trans r1
      have z0 : ∀ b w, sJ (fun j => uP X b w (ko X p' j)) 0 = 0 := fun _ _ => rfl
      have t1 := hY.tl16 d3
      have t2 := hY.tl16 e3
      have hc1 : ∀ w, VW X S 1 w → 1 + c1 ≤ uP X 1 w p := fun w hw => by
        rw [← up 1 w hw, uP_kids hX d3]
        have := r4 w hw
        rw [z0] at this
        have := wl1 w hw (gl X p')
        omega
      rcases Nat.eq_zero_or_pos (ga X p') with z | z
      · have l1 := tl_leaf hX d3 z
        have l2 := tl_leaf hX e3 (by rw [hga]; exact z)
        refine ⟨1 + c1, c0, C, n, by rw [g1, Nat.add_assoc], by omega, by omega, hc1, fun w hw => ?_⟩
        rw [← up 0 w hw, uP_kids hX d3]
        have := r5 w hw
        rw [z0] at this
        omega
      · refine ⟨1 + c1, 1 + c0, C, n, by rw [g1, Nat.add_assoc], by omega, by omega, hc1, fun w hw => ?_⟩
        rw [← up 0 w hw, uP_head hX d3 z]
        have := r5 w hw
        rw [z0] at this
        omega
end U59bd4
section U60bd5
/-! the bound on the steps, 5: unlike places of one level are in unlike classes -/
def Kd (X : List Nat) (a i z : Nat) : Prop := a < X.length ∧ i < ga X a ∧ ko X a i = z
theorem Gn_par {X : List Nat} (hX : BX X) {S : SS} (hS : S1 X S) {dn : PL2} (hC : Cl X S dn) {b : Nat} {w : Nat → Nat} (hw : VW X S b w) {m : Nat} {PR : Nat → Nat → Nat → Prop}
    (p1 : ∀ i a b, PR i a b → PR i b a) (p2 : ∀ i a b c, PR i a b → PR i b c → PR i a c)
    (hp : ∀ q ∈ dn, uP X b w q.1 = m → ∃ a a' i, Kd X a i q.1 ∧ Kd X a' i q.2 ∧ PR i a a') {x y : Nat} (g : Gn dn x y) (hm : uP X b w x = m) : x = y ∨ ∃ a a' i, Kd X a i x ∧ Kd X a' i y ∧ PR i a a' := by
  have key := g (fun x y => x = y ∨ (uP X b w x = m ∧ uP X b w y = m ∧ ∃ a a' i, Kd X a i x ∧ Kd X a' i y ∧ PR i a a') ∨ (uP X b w x ≠ m ∧ uP X b w y ≠ m)) (fun a => Or.inl rfl) (fun x y q => ?_) (fun x y z q r => ?_) (fun q hq => ?_)
  · rcases key with h | ⟨_, _, h⟩ | ⟨h, _⟩
    · exact Or.inl h
    · exact Or.inr h
    · exact absurd hm h
  · rcases q with h | ⟨h1, h2, a, a', i, h3, h4, h5⟩ | ⟨h1, h2⟩
    · exact Or.inl h.symm
    · exact Or.inr (Or.inl ⟨h2, h1, a', a, i, h4, h3, p1 _ _ _ h5⟩)
    · exact Or.inr (Or.inr ⟨h2, h1⟩)
  · rcases q with h | ⟨h1, h2, a, a', i, h3, h4, h5⟩ | ⟨h1, h2⟩
    · subst h; exact r
    · rcases r with k | ⟨k1, k2, c, c', j, k3, k4, k5⟩ | ⟨k1, k2⟩
      · subst k; exact Or.inr (Or.inl ⟨h1, h2, a, a', i, h3, h4, h5⟩)
      · obtain ⟨e1, e2⟩ := par_un hX h4.1 k3.1 h4.2.1 k3.2.1 (h4.2.2.trans k3.2.2.symm)
        subst e1
        subst e2
        exact Or.inr (Or.inl ⟨h1, k2, a, c', i, h3, k4, p2 _ _ _ _ h5 k5⟩)
      · exact absurd h2 k1
    · rcases r with k | ⟨k1, k2, c, c', j, k3, k4, k5⟩ | ⟨k1, k2⟩
      · subst k; exact Or.inr (Or.inr ⟨h1, h2⟩)
      · exact absurd k1 h2
      · exact Or.inr (Or.inr ⟨h1, k2⟩)
  · have e := Gn_U hX hS hC hw (hC q hq).1 (Gn.of hq)
    by_cases h : uP X b w q.1 = m
    · exact Or.inr (Or.inl ⟨h, by rw [← e]; exact h, hp q hq h⟩)
    · exact Or.inr (Or.inr ⟨h, by rw [← e]; exact h⟩)
/-- what is smaller than all pairs that are under way is together by pairs that are through -/
theorem Gn_small {X : List Nat} (hX : BX X) {S : SS} (hS : S1 X S) {dn an : PL2} (hC : Cl X S dn) {b : Nat} {w : Nat → Nat} (hw : VW X S b w) {x y : Nat} (hx : x < X.length) (hM : ∀ q ∈ an, uP X b w x < uP X b w q.1 ∧ uP X b w x < uP X b w q.2) (g : Gn (dn ++ an) x y) : Gn dn x y := by
  have key := g (fun x y => Gn dn x y ∨ ((∃ q ∈ an, Gn dn x q.1 ∨ Gn dn x q.2) ∧ (∃ q ∈ an, Gn dn y q.1 ∨ Gn dn y q.2))) (fun a => Or.inl (Gn.rf _ _)) (fun x y q => ?_) (fun x y z q r => ?_) (fun q hq => ?_)
  · rcases key with h | ⟨⟨q, hq, h⟩, _⟩
    · exact h
    · have := hM q hq
      rcases h with h | h
      · have := Gn_U hX hS hC hw hx h
        omega
      · have := Gn_U hX hS hC hw hx h
        omega
  · rcases q with h | ⟨h1, h2⟩
    · exact Or.inl h.sy
    · exact Or.inr ⟨h2, h1⟩
  · rcases q with h | ⟨⟨q, hq, h1⟩, h2⟩
    · rcases r with k | ⟨⟨q, hq, k1⟩, k2⟩
      · exact Or.inl (h.tr k)
      · exact Or.inr ⟨⟨q, hq, k1.imp (fun z => h.tr z) (fun z => h.tr z)⟩, k2⟩
    · rcases r with k | ⟨k1, k2⟩
      · obtain ⟨q', hq', h2⟩ := h2
        exact Or.inr ⟨⟨q, hq, h1⟩, ⟨q', hq', h2.imp (fun z => k.sy.tr z) (fun z => k.sy.tr z)⟩⟩
      · exact Or.inr ⟨⟨q, hq, h1⟩, k2⟩
  · rcases List.mem_append.mp hq with h | h
    · exact Or.inl (Gn.of h)
    · exact Or.inr ⟨⟨q, h, Or.inl (Gn.rf _ _)⟩, ⟨q, h, Or.inr (Gn.rf _ _)⟩⟩
/-- where a pair that is through came from -/
def Ty (X : List Nat) (n1 : Nat) (S : SS) (dn P : PL2) : Prop := ∀ q ∈ dn, (∃ x p, S x = some p ∧ (dp X S p = q.1 ∨ dp X S p = q.2)) ∨ q = (0, n1) ∨ ∃ y ∈ P, ∃ j, j < ga X y.1 ∧ q = (ko X y.1 j, ko X y.2 j)
def Ok2 (X : List Nat) (P : PL2) : Prop := ∀ q ∈ P, q.1 < X.length ∧ q.2 < X.length ∧ gl X q.1 = gl X q.2 ∧ 0 < ga X q.1
theorem td_ok {X : List Nat} {n1 : Nat} (hY : BY X n1) {S : SS} (hS : S1 X S) {dn an : PL2} (hC : Cl X S dn) (hO : Ok2 X (dn ++ an)) (hT : Ty X n1 S dn (dn ++ an)) {b : Nat} {w : Nat → Nat} (hw : VW X S b w) {u : Nat} (hu : u < X.length) (hM : ∀ q ∈ an, uP X b w u < uP X b w q.1 ∧ uP X b w u < uP X b w q.2) :
    ∀ n z z', uP X b w u - uP X b w z ≤ n → u ≤ z → z < u + tl X u → u ≤ z' → z' < u + tl X u → (∀ x p, S x = some p → uP X b w z ≤ w x → w x < uP X b w u → False) → Gn (dn ++ an) z z' → z = z' := by
  have hX := hY.1
  have hu2 := (bx_tl hX hu).2.2
  intro n
  induction n with
  | zero =>
    intro z z' hn z1 z2 z3 z4 hv g
    obtain ⟨i1, i2⟩ := uP_in hX (b := b) (w := w) _ u z (Nat.le_refl _) hu z1 z2
    obtain ⟨j1, j2⟩ := uP_in hX (b := b) (w := w) _ u z' (Nat.le_refl _) hu z3 z4
    have e := Gn_U hX hS hC hw (by omega) (Gn_small hX hS hC hw (by omega) (fun q hq => by have := hM q hq; omega) g)
    have : z = u := Decidable.byContradiction (fun h => by have := i2 h; omega)
    have : z' = u := Decidable.byContradiction (fun h => by have := j2 h; omega)
    omega
  | succ n ih =>
    intro z z' hn z1 z2 z3 z4 hv g
    obtain ⟨i1, i2⟩ := uP_in hX (b := b) (w := w) _ u z (Nat.le_refl _) hu z1 z2
    obtain ⟨j1, j2⟩ := uP_in hX (b := b) (w := w) _ u z' (Nat.le_refl _) hu z3 z4
    have g2 := Gn_small hX hS hC hw (by omega) (fun q hq => by have := hM q hq; omega) g
    have e := Gn_U hX hS hC hw (by omega) g2
    by_cases c1 : z = u
    · have : z' = u := Decidable.byContradiction (fun h => by have := j2 h; rw [c1] at e; omega)
      omega
    by_cases c2 : z' = u
    · rw [c2] at e
      have := i2 c1
      omega
    have i3 := i2 c1
    have hp : ∀ q ∈ dn, uP X b w q.1 = uP X b w z → ∃ a a' i, Kd X a i q.1 ∧ Kd X a' i q.2 ∧ Gn (dn ++ an) a a' := by
      intro q hq hm
      have e2 := Gn_U hX hS hC hw (hC q hq).1 (Gn.of hq)
      rcases hT q hq with ⟨x, p, h1, h2⟩ | h | ⟨y, hy, j, h1, h2⟩
      · have h3 := hw.2 x p h1
        rw [← dp_U hX hS hw _ p (Nat.lt_succ_self _) (hS x p h1).2.1] at h3
        have h4 : w x = uP X b w z := by rcases h2 with h2 | h2 <;> rw [h2] at h3 <;> omega
        exact absurd (hv x p h1 (by omega) (by omega)) (fun z => z)
      · rw [h] at e2 hm
        have y0 := hY.2
        rcases Nat.lt_or_ge u n1 with c | c
        · have := (uP_in hX (b := b) (w := w) _ 0 u (Nat.le_refl _) (by omega) (Nat.zero_le _) (by omega)).1
          dsimp only at e2 hm
          omega
        · have := (uP_in hX (b := b) (w := w) _ n1 u (Nat.le_refl _) (by omega) c (by omega)).1
          dsimp only at e2 hm
          omega
      · obtain ⟨o1, o2, o3, o4⟩ := hO y hy
        refine ⟨y.1, y.2, j, ⟨o1, h1, by rw [h2]⟩, ⟨o2, by rw [← ga_eq o3]; exact h1, by rw [h2]⟩, Gn.of hy⟩
    rcases Gn_par hX hS hC hw (m := uP X b w z) (PR := fun _ a a' => Gn (dn ++ an) a a') (fun _ _ _ => Gn.sy) (fun _ _ _ _ => Gn.tr) hp g2 rfl with h | ⟨a, a', i, k1, k2, k3⟩
    · exact h
    · obtain ⟨a0, j0, q1, q2, q3, q4, q5, q6⟩ := par_ex hX _ u z (Nat.le_refl _) hu (by omega) z2
      obtain ⟨e1, e2⟩ := par_un hX q4 k1.1 q5 k1.2.1 (q6.trans k1.2.2.symm)
      obtain ⟨b0, t0, r1, r2, r3, r4, r5, r6⟩ := par_ex hX _ u z' (Nat.le_refl _) hu (by omega) z4
      obtain ⟨f1, f2⟩ := par_un hX r4 k2.1 r5 k2.2.1 (r6.trans k2.2.2.symm)
      have ua := uP_kid hX (b := b) (w := w) k1.1 k1.2.1
      rw [k1.2.2] at ua
      have ha := (uP_in hX (b := b) (w := w) _ u a (Nat.le_refl _) hu (by omega) (by omega)).1
      have := ih a a' (by omega) (by omega) (by omega) (by omega) (by omega) (fun x p h1 h2 h3 => hv x p h1 (by omega) h3) k3
      rw [← k1.2.2, ← k2.2.2, this]
end U60bd5
section U61bd6
/-! the bound on the steps, 6: the size of a term, by its levels -/
def cI (X : List Nat) (f : Nat → Nat) (p : Nat) : Nat := sJ (fun i => f (p + i)) (tl X p)
theorem cI_kids {X : List Nat} (hX : BX X) {f : Nat → Nat} {p : Nat} (hp : p < X.length) : cI X f p = f p + sJ (fun j => cI X f (ko X p j)) (ga X p) := by
  have key : ∀ j, j ≤ ga X p → sJ (fun i => f (p + 1 + i)) (ko X p j - (p + 1)) = sJ (fun j => cI X f (ko X p j)) j := by
    intro j
    induction j with
    | zero => intro _; show sJ _ (p + 1 - (p + 1)) = 0; rw [Nat.sub_self]; rfl
    | succ j ih =>
      intro hj
      obtain ⟨k1, k2, k3, k4, k5⟩ := ko_mono hX hp (show j < ga X p by omega)
      have e : ko X p (j + 1) - (p + 1) = (ko X p j - (p + 1)) + tl X (ko X p j) := by
        show ko X p j + tl X (ko X p j) - (p + 1) = _
        omega
      rw [e, sJ_add, ih (by omega)]
      show _ = sJ _ j + cI X f (ko X p j)
      congr 1
      unfold cI
      refine sJ_congr (fun i _ => ?_)
      rw [show p + 1 + (ko X p j - (p + 1) + i) = ko X p j + i by omega]
  have h1 := key (ga X p) (Nat.le_refl _)
  rw [ko_last hX hp] at h1
  rw [← h1]
  have h2 := (bx_tl hX hp).2.1
  unfold cI
  rw [show tl X p = 1 + (p + tl X p - (p + 1)) by omega, sJ_add]
  congr 1
  · show 0 + f (p + 0) = _
    rw [Nat.add_zero, Nat.zero_add]
  · rw [show p + (1 + (p + tl X p - (p + 1))) - (p + 1) = p + tl X p - (p + 1) by omega]
    refine sJ_congr (fun i _ => ?_)
    rw [show p + (1 + i) = p + 1 + i by omega]
theorem sJ_lin (A B : Nat → Nat) (v : Nat) : ∀ n, sJ (fun j => A j + (1 + B j) * v) n = sJ A n + (n + sJ B n) * v
  | 0 => by show 0 = 0 + (0 + 0) * v; simp
  | n + 1 => by
    show sJ (fun j => A j + (1 + B j) * v) n + (A n + (1 + B n) * v) = sJ A n + A n + (n + 1 + (sJ B n + B n)) * v
    rw [sJ_lin A B v n, show n + 1 + (sJ B n + B n) = (n + sJ B n) + (1 + B n) by omega, Nat.add_mul (n + sJ B n)]
    omega
theorem sJ_plus (f g : Nat → Nat) : ∀ n, sJ (fun j => f j + g j) n = sJ f n + sJ g n
  | 0 => rfl
  | n + 1 => by
    show sJ (fun j => f j + g j) n + (f n + g n) = sJ f n + f n + (sJ g n + g n)
    rw [sJ_plus f g n]
    omega
theorem sJ_two (f : Nat → Nat) : ∀ n, sJ (fun j => 2 * f j) n = 2 * sJ f n
  | 0 => rfl
  | n + 1 => by
    show sJ (fun j => 2 * f j) n + 2 * f n = 2 * (sJ f n + f n)
    rw [sJ_two f n]
    omega
theorem sJ_lek {f g : Nat → Nat} {k d : Nat} : ∀ {n : Nat}, k < n → (∀ i, i < n → f i ≤ g i) → f k + d ≤ g k → sJ f n + d ≤ sJ g n
  | n + 1, h, hl, hk => by
    show sJ f n + f n + d ≤ sJ g n + g n
    rcases Nat.lt_or_ge k n with q | q
    · have := sJ_lek q (fun i hi => hl i (by omega)) hk
      have := hl n (by omega)
      omega
    · have : k = n := by omega
      subst this
      have := sJ_le (f := f) (g := g) (n := k) (fun i hi => hl i (by omega))
      omega
theorem sJ_swap (F : Nat → Nat → Nat) (n : Nat) : ∀ m, sJ (fun c => sJ (fun i => F c i) n) m = sJ (fun i => sJ (fun c => F c i) m) n
  | 0 => by
    show 0 = sJ (fun i => 0) n
    induction n with
    | zero => rfl
    | succ n ih => show 0 = sJ (fun i => 0) n + 0; rw [← ih]
  | m + 1 => by
    show sJ (fun c => sJ (fun i => F c i) n) m + sJ (fun i => F m i) n = sJ (fun i => sJ (fun c => F c i) m + F m i) n
    rw [sJ_swap F n m, sJ_plus]
theorem sJ_0 {f : Nat → Nat} : ∀ {n : Nat}, (∀ i, i < n → f i = 0) → sJ f n = 0
  | 0, _ => rfl
  | n + 1, h => by
    show sJ f n + f n = 0
    rw [sJ_0 (fun i hi => h i (by omega)), h n (by omega)]
theorem sJ_one {f : Nat → Nat} {B : Nat} : ∀ {n : Nat}, (∀ i j, i < n → j < n → f i ≠ 0 → f j ≠ 0 → i = j) → (∀ i, i < n → f i ≤ B) → sJ f n ≤ B
  | 0, _, _ => Nat.zero_le _
  | n + 1, h1, h2 => by
    show sJ f n + f n ≤ B
    by_cases z : f n = 0
    · have := sJ_one (f := f) (B := B) (n := n) (fun i j hi hj => h1 i j (by omega) (by omega)) (fun i hi => h2 i (by omega))
      omega
    · rw [sJ_0 (fun i hi => Decidable.byContradiction (fun y => by have := h1 i n (by omega) (by omega) y z; omega))]
      have := h2 n (by omega)
      omega
theorem sJ_single {k x : Nat} : ∀ {n : Nat}, k < n → sJ (fun c => if k = c then x else 0) n = x
  | n + 1, h => by
    show sJ (fun c => if k = c then x else 0) n + (if k = n then x else 0) = x
    by_cases e : k = n
    · rw [if_pos e, sJ_0 (fun i hi => if_neg (by omega))]
      omega
    · rw [if_neg e, sJ_single (by omega), Nat.add_zero]
/-- a term, down to what is small -/
theorem fr_ok {X : List Nat} (hX : BX X) {b : Nat} {w : Nat → Nat} {v u : Nat} (hu : u < X.length) (hz : ∀ z, u ≤ z → z < u + tl X u → v < uP X b w z → 0 < ga X z) : ∀ (n p : Nat), tl X p ≤ n → u ≤ p → p + tl X p ≤ u + tl X u → p < X.length →
    uP X b w p ≤ cI X (fun i => if v < uP X b w i then 1 else 0) p + (1 + cI X (fun i => if v < uP X b w i then ga X i - 1 else 0) p) * v
  | 0, p, hn, h1, h2, hp => by
    have := (bx_tl hX hp).2.1
    omega
  | n + 1, p, hn, h1, h2, hp => by
    have h3 := (bx_tl hX hp).2.1
    rcases Nat.lt_or_ge v (uP X b w p) with c | c
    · have hg := hz p h1 (by omega) c
      rw [uP_head hX hp hg, cI_kids hX hp, cI_kids hX hp, if_pos c, if_pos c]
      have h4 : sJ (fun j => uP X b w (ko X p j)) (ga X p) ≤ sJ (fun j => cI X (fun i => if v < uP X b w i then 1 else 0) (ko X p j) + (1 + cI X (fun i => if v < uP X b w i then ga X i - 1 else 0) (ko X p j)) * v) (ga X p) := by
        refine sJ_le (fun j hj => ?_)
        obtain ⟨k1, k2, k3, k4, k5⟩ := ko_mono hX hp hj
        exact fr_ok hX hu hz n (ko X p j) (by omega) (by omega) (by omega) k5
      rw [sJ_lin] at h4
      rw [show 1 + (ga X p - 1 + sJ (fun j => cI X (fun i => if v < uP X b w i then ga X i - 1 else 0) (ko X p j)) (ga X p)) = ga X p + sJ (fun j => cI X (fun i => if v < uP X b w i then ga X i - 1 else 0) (ko X p j)) (ga X p) by omega]
      omega
    · rw [Nat.add_mul, Nat.one_mul]
      omega
theorem Gn_gl {X : List Nat} {P : PL2} (hO : Ok2 X P) {x y : Nat} (g : Gn P x y) : gl X x = gl X y := g (fun x y => gl X x = gl X y) (fun _ => rfl) (fun _ _ h => h.symm) (fun _ _ _ h k => h.trans k) (fun q hq => (hO q hq).2.2.1)
/-- all that is known of the classes -/
def LVH (X : List Nat) (n1 : Nat) (S : SS) (dn an : PL2) (rp : Nat → Nat) (b : Nat) (w : Nat → Nat) : Prop :=
  BY X n1 ∧ S1 X S ∧ Cl X S dn ∧ Ok2 X (dn ++ an) ∧ Ty X n1 S dn (dn ++ an) ∧ VW X S b w ∧ (∀ x, S x = none → w x = b) ∧ (∀ x y, rp x = rp y → Gn (dn ++ an) x y) ∧ (∀ x, rp (rp x) = rp x) ∧ (∀ x, x < X.length → rp x < X.length)
theorem cls_ok {X : List Nat} {n1 : Nat} {S : SS} {dn an : PL2} {rp : Nat → Nat} {b : Nat} {w : Nat → Nat} (H : LVH X n1 S dn an rp b w) {u v : Nat} (hu : u < X.length) (hM : ∀ q ∈ an, uP X b w u < uP X b w q.1 ∧ uP X b w u < uP X b w q.2) (hv : ∀ x p, S x = some p → v < w x → w x < uP X b w u → False) :
    sJ (fun i => if v < uP X b w (u + i) then 2 * ga X (u + i) else 0) (tl X u) ≤ sJ (fun c => if rp c = c ∧ v < uP X b w c ∧ uP X b w c ≤ uP X b w u then 2 * ga X c else 0) X.length := by
  obtain ⟨hY, hS, hC, hO, hT, hw, hb, r1, r2, r3⟩ := H
  have hX := hY.1
  have hu2 := (bx_tl hX hu).2.2
  have e1 : sJ (fun i => if v < uP X b w (u + i) then 2 * ga X (u + i) else 0) (tl X u) = sJ (fun i => sJ (fun c => if rp (u + i) = c then (if v < uP X b w (u + i) then 2 * ga X (u + i) else 0) else 0) X.length) (tl X u) :=
    sJ_congr (fun i hi => (sJ_single (r3 _ (by omega))).symm)
  rw [e1, ← sJ_swap]
  have sm : ∀ i, i < tl X u → ∀ y, Gn (dn ++ an) (u + i) y → Gn dn (u + i) y := fun i hi y g => by
    have := (uP_in hX (b := b) (w := w) _ u (u + i) (Nat.le_refl _) hu (by omega) (by omega)).1
    exact Gn_small hX hS hC hw (by omega) (fun q hq => by have := hM q hq; omega) g
  refine sJ_le (fun c hc => sJ_one (fun i j hi hj f1 f2 => ?_) (fun i hi => ?_))
  · have a1 : rp (u + i) = c ∧ v < uP X b w (u + i) := by
      refine ⟨Decidable.byContradiction (fun z => f1 (if_neg z)), Decidable.byContradiction (fun z => f1 ?_)⟩
      rw [if_neg z]
      split <;> rfl
    have a2 : rp (u + j) = c := Decidable.byContradiction (fun z => f2 (if_neg z))
    have := td_ok hY hS hC hO hT hw hu hM _ (u + i) (u + j) (Nat.le_refl _) (by omega) (by omega) (by omega) (by omega) (fun x p h1 h2 h3 => hv x p h1 (by omega) h3) (r1 _ _ (a1.1.trans a2.symm))
    omega
  · by_cases e : rp (u + i) = c
    · rw [if_pos e]
      by_cases h : v < uP X b w (u + i)
      · rw [if_pos h]
        have g := r1 (u + i) c (by rw [← e, r2])
        have g2 := Gn_U hX hS hC hw (by omega) (sm i hi _ g)
        have := (uP_in hX (b := b) (w := w) _ u (u + i) (Nat.le_refl _) hu (by omega) (by omega)).1
        rw [if_pos ⟨by rw [← e, r2], by omega, by omega⟩, ga_eq (Gn_gl hO g)]
        exact Nat.le_refl _
      · rw [if_neg h]
        exact Nat.zero_le _
    · rw [if_neg e]
      exact Nat.zero_le _
end U61bd6
