/-! THE REFERENCE'S SMALL METHODS -/
/-- room by the depth of calls -/
def rmD (d k n : Nat) : Room := { frames := d, cells := k, slots := n, locals := 40 * d }
def vI (x : Nat) : Value := .int (nI x)
/-- an array of small whole numbers -/
def IA (xs : List Nat) : AC := (100, xs.map vI)
theorem IA_get {xs : List Nat} {j x : Nat} (h : xs[j]? = some x) : (xs.map vI)[j]? = some (vI x) := by rw [List.getElem?_map, h]; rfl
theorem inA_nI {vs : List Value} {j : Nat} {v : Value} (hj : j < 2 ^ 31) (h : vs[j]? = some v) : inA (nI j) vs v := ⟨nI_pos hj, by rw [nI_clamp hj]; exact h⟩
/-- how many parts a letter has -/
def pF (x : Nat) : Nat := if x < 10 then 0 else (x - 10) / 2
/-- how many letters the first 'need' terms of a row take -/
def endL : Nat → List Nat → Option Nat
  | 0, _ => some 0
  | _ + 1, [] => none
  | n + 1, x :: r => (endL (n + pF x) r).map (· + 1)
theorem nI_10 : (Int8.ofInt 10).toInt32 = nI 10 := by decide +kernel
theorem nI_2 : Int32.ofInt 2 = nI 2 := by decide +kernel
theorem nI_1' : Int32.ofInt 1 = nI 1 := by decide +kernel
theorem nI_0' : Int32.ofInt 0 = nI 0 := by decide +kernel
theorem nI_sub {a b : Nat} (h : b ≤ a) : nI a - nI b = nI (a - b) := by
  have e : nI a = nI (a - b) + nI b := by rw [nI_add, Nat.sub_add_cancel h]
  rw [e, Int32.add_sub_cancel]
theorem nI_div {a b : Nat} (ha : a < 2 ^ 31) (hb : b < 2 ^ 31) (hb0 : 0 < b) : nI a / nI b = nI (a / b) := by
  have hd : a / b < 2 ^ 31 := Nat.lt_of_le_of_lt (Nat.div_le_self a b) ha
  apply Int32.toInt_inj.mp
  rw [Int32.toInt_div, nI_toInt ha, nI_toInt hb, nI_toInt hd, Int.tdiv_eq_ediv_of_nonneg (by omega), ← Int.natCast_ediv]
  generalize a / b = q at hd ⊢
  exact Int.bmod_eq_of_le (by omega) (by omega)
section WSL
variable {p : Program} {la : Launch} {e : Env} {R : Room} {s : State} {m : MethodId} {args : Array Value} {below : List Frame} {meth : Method} {c : Code} {Q : State → Prop} {D : va_G} {cA : Nat → ClassId} {B0 nL : Nat}
theorem WS.loc {pc k n : Nat} {l l' : List (Nat × Value)} {st : List Value} {h : AH} (ks : List Nat) (hl : lv_pick l ks = l') (kk : WS p la e R s m args below meth c Q D cA B0 nL pc l' st h k n) : WS p la e R s m args below meth c Q D cA B0 nL pc l st h k n :=
  fun H locs ls hH hls => kk H locs ls hH (lv_sub hls ks hl)
end WSL
section M1
variable {la : Launch} {D : va_G} {cA : Nat → ClassId} {B0 pa : Nat}
set_option maxHeartbeats 4000000 in
theorem c_parts (h : AH) {x : Nat} (hx : x < 2 ^ 20) : CT la D cA B0 pa yX10_parts cX10_parts 1 (some .int) (rmD 0 0 0) [vI x] h (fun v h' => v = some (vI (pF x)) ∧ h' = h) := by
  refine CT_of (by decide +kernel) (Nat.le_of_ble_eq_true rfl) ?_
  intro p e s m args below meth c X E hr hk hn
  have dk : ∀ {pc : Nat} {q : Instr × Nat}, lkd DX10_parts pc = some q → decode cX10_parts pc = .ok q := lkd_ok DX10_parts_ok
  repeat refine fst1_ok X (dk rfl) rfl ?_
  refine br_ok X (dk rfl) rfl (show ((3 : Nat) : Int) + 7 = ((10 : Nat) : Int) from rfl) (fun c1 => ?_) (fun c1 => ?_)
  · rw [nI_10] at c1
    have hge : 10 ≤ x := (nI_leI (by omega) (by omega)).mp c1
    repeat refine fst1_ok X (dk rfl) rfl ?_
    refine reti_ok X hr hk rfl (dk rfl) ⟨?_, rfl⟩ (Nat.le_refl _) (Nat.le_refl _)
    rw [nI_10, nI_2, nI_sub hge, nI_div (by omega) (by omega) (by omega)]
    simp [vI, pF, Nat.not_lt.mpr hge]
  · rw [nI_10] at c1
    have hlt : x < 10 := by
      rcases Nat.lt_or_ge x 10 with q | q
      · exact q
      · exact absurd ((nI_leI (by omega) (by omega)).mpr q) c1
    repeat refine fst1_ok X (dk rfl) rfl ?_
    refine br_ok X (dk rfl) rfl (show ((7 : Nat) : Int) + 9 = ((16 : Nat) : Int) from rfl) (fun _ => ?_) (fun q => absurd trivial q)
    refine reti_ok X hr hk rfl (dk rfl) ⟨?_, rfl⟩ (Nat.le_refl _) (Nat.le_refl _)
    simp [vI, pF, hlt, nI]
theorem pF_le (x : Nat) (hx : x < 2 ^ 20) : pF x < 2 ^ 20 := by unfold pF; split <;> omega
theorem nI_ngt0 {n : Nat} (h : n < 2 ^ 31) (c : ¬ nI n ≤ Int32.ofInt 0) : 0 < n := by
  rcases Nat.eq_zero_or_pos n with q | q
  · subst q; exact absurd (by decide) c
  · exact q
theorem nI_le0 {n : Nat} (h : n < 2 ^ 31) (c : nI n ≤ 0) : n = 0 := by
  rcases Nat.eq_zero_or_pos n with q | q
  · exact q
  · exact absurd c (nI_nle q h)
set_option maxHeartbeats 4000000 in
theorem c_end (h : AH) {a at' k : Nat} {xs : List Nat} (ha : h a = some (IA xs)) (hx : ∀ x ∈ xs, x < 2 ^ 10) (hn : xs.length < 2 ^ 10) (hk : endL 1 (xs.drop at') = some k) : CT la D cA B0 pa yX10_end cX10_end 4 (some .int) (rmD 1 0 0) [.ref a, vI at'] h (fun v h' => v = some (vI (at' + k)) ∧ h' = h) := by
  refine CT_of (by decide +kernel) (Nat.le_of_ble_eq_true rfl) ?_
  intro p e s m args below meth c X E hr hlk hnm
  have dk : ∀ {pc : Nat} {q : Instr × Nat}, lkd DX10_end pc = some q → decode cX10_end pc = .ok q := lkd_ok DX10_end_ok
  have loop : ∀ (ys : List Nat) (nd pl j : Nat), xs.drop pl = ys → endL nd ys = some j → pl + j = at' + k → nd + ys.length * 2 ^ 10 < 2 ^ 25 → WS p la e (rmD 1 0 0) s m args below meth c (MQ below (QC D cA B0 (fun v h' => v = some (vI (at' + k)) ∧ h' = h)) args s (rmD 1 0 0).cells (rmD 1 0 0).slots (fun q : Nat => B0 ≤ q)) D cA B0 4 4 [(3, vI nd), (2, vI pl), (0, .ref a), (1, vI at')] [] h 0 0 := by
    intro ys
    induction ys with
    | nil =>
      intro nd pl j hd hj hpj hb
      cases nd with
      | succ nd => simp [endL] at hj
      | zero =>
        simp only [endL, Option.some.injEq] at hj
        subst hj
        repeat refine fst1_ok X (dk rfl) rfl ?_
        refine br_ok X (dk rfl) rfl (show ((5 : Nat) : Int) + 20 = ((25 : Nat) : Int) from rfl) (fun c1 => ?_) (fun c1 => absurd (show nI 0 ≤ 0 by decide) c1)
        repeat refine fst1_ok X (dk rfl) rfl ?_
        exact reti_ok X hr hlk rfl (dk rfl) ⟨by rw [← hpj]; rfl, rfl⟩ (Nat.le_refl _) (Nat.le_refl _)
    | cons y r ih =>
      intro nd pl j hd hj hpj hb
      have hlt : pl < xs.length := by
        rcases Nat.lt_or_ge pl xs.length with q | q
        · exact q
        · rw [List.drop_eq_nil_of_le q] at hd; cases hd
      have hy : xs[pl]? = some y := by
        have := congrArg (fun l : List Nat => l[0]?) hd
        simpa using this
      have hr' : xs.drop (pl + 1) = r := by
        have := congrArg List.tail hd
        simpa using this
      have hyx : y < 2 ^ 10 := hx y (List.mem_of_getElem? hy)
      repeat refine fst1_ok X (dk rfl) rfl ?_
      cases nd with
      | zero =>
        simp only [endL, Option.some.injEq] at hj
        subst hj
        refine br_ok X (dk rfl) rfl (show ((5 : Nat) : Int) + 20 = ((25 : Nat) : Int) from rfl) (fun c1 => ?_) (fun c1 => absurd (show nI 0 ≤ 0 by decide) c1)
        repeat refine fst1_ok X (dk rfl) rfl ?_
        exact reti_ok X hr hlk rfl (dk rfl) ⟨by rw [← hpj]; rfl, rfl⟩ (Nat.le_refl _) (Nat.le_refl _)
      | succ nd =>
        have hln : (y :: r).length = r.length + 1 := rfl
        rw [hln] at hb
        refine br_ok X (dk rfl) rfl (show ((5 : Nat) : Int) + 20 = ((25 : Nat) : Int) from rfl) (fun c1 => absurd c1 (nI_nle (Nat.succ_pos nd) (by omega))) (fun c1 => ?_)
        simp only [endL, Option.map_eq_some_iff] at hj
        obtain ⟨j', hj', rfl⟩ := hj
        repeat refine fst1_ok X (dk rfl) rfl ?_
        refine ald_ok X (Or.inl ⟨rfl, rfl⟩) (dk rfl) ha (inA_nI (by omega) (IA_get hy)) ?_
        refine callS_ok (av := [vI y]) (r := [vI (nd + 1)]) X E (c_parts h (by omega)) lkX10_parts mlX10_32 lsX10_parts ⟨by decide, by decide⟩ ⟨by decide, by decide⟩ (Nat.le_of_ble_eq_true rfl) (dk rfl) ?_
        rintro v h' ⟨rfl, rfl⟩
        repeat refine fst1_ok X (dk rfl) rfl ?_
        refine br_ok X (dk rfl) rfl (show ((22 : Nat) : Int) + (-18) = ((4 : Nat) : Int) from rfl) (fun _ => ?_) (fun q => absurd trivial q)
        have hpF : pF y < 2 ^ 10 := by unfold pF; split <;> omega
        have e1 : nI (nd + 1) + (nI (pF y) - Int32.ofInt 1) = nI (nd + pF y) := by
          rw [nI_1', ← nI_add, show nI nd + nI 1 + (nI (pF y) - nI 1) = nI nd + nI (pF y) by rw [Int32.add_assoc, Int32.add_comm (nI 1), Int32.sub_add_cancel]]
          exact nI_add _ _
        have f1 : Value.int (nI (nd + 1) + (nI (pF y) - Int32.ofInt 1)) = vI (nd + pF y) := congrArg Value.int e1
        have e2 : nI pl + Int32.ofInt 1 = nI (pl + 1) := by rw [nI_1', nI_add]
        have f2 : Value.int (nI pl + Int32.ofInt 1) = vI (pl + 1) := congrArg Value.int e2
        refine WS.loc (l' := [(3, vI (nd + pF y)), (2, vI (pl + 1)), (0, .ref a), (1, vI at')]) [1, 0, 2, 3] (by rw [← f1, ← f2]; rfl) ?_
        exact ih (nd + pF y) (pl + 1) j' hr' hj' (by omega) (by omega)
  iterate 4 refine fst1_ok X (dk rfl) rfl ?_
  exact loop (xs.drop at') 1 at' k rfl hk rfl (by rw [List.length_drop]; omega)
end M1
