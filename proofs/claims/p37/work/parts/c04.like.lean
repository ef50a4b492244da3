section Uc04like
/-! the class, strongly: kinds of letters, ends, likeness (printed by wip/p20/genS3.py) -/
theorem partsF_at : ∀ j, j < 8 → partsF j = vI (pF (j + 10))
  | 0, _ => rfl
  | 1, _ => rfl
  | 2, _ => rfl
  | 3, _ => rfl
  | 4, _ => rfl
  | 5, _ => rfl
  | 6, _ => rfl
  | 7, _ => rfl
theorem nI_8' : (Int8.ofInt 8).toInt32 = nI 8 := by decide +kernel
theorem nI_18' : (Int8.ofInt 18).toInt32 = nI 18 := by decide +kernel
theorem nI_m9 {n : Nat} (h : n < 2 ^ 31) : nI n ≠ (Int8.ofInt (-9)).toInt32 := fun z => nI_pos h (by rw [z]; decide +kernel)
theorem map_get {ns : List Nat} {j x : Nat} (h : ns[j]? = some x) : (ns.map nI)[j]? = some (nI x) := by rw [List.getElem?_map, h]; rfl
/-- a term's letters are these numbers -/
def TN (t : TC) (ns : List Nat) : Prop := t.1 = ns.map nI ∧ ∀ x ∈ ns, okL x
theorem TN.len {t : TC} {ns : List Nat} (h : TN t ns) : t.1.length = ns.length := by rw [h.1, List.length_map]
theorem TN.lt {t : TC} {ns : List Nat} (h : TN t ns) {j x : Nat} (hj : ns[j]? = some x) (h2 : j < 2 ^ 31) : ltX t.1 (nI j) = nI x := by
  rw [h.1]
  exact ltX_nI h2 (map_get hj)
theorem TN.out {t : TC} {ns : List Nat} (h : TN t ns) {j : Nat} (hj : ns.length ≤ j) (h2 : j < 2 ^ 31) : ltX t.1 (nI j) = (Int8.ofInt (-9)).toInt32 := ltX_out h2 (by rw [h.len]; exact hj)
theorem pF_le3 {x : Nat} (h : x < 18) : pF x ≤ 3 := by unfold pF; split <;> omega
section S04
variable {la : Launch} {D : va_G} {cA : Nat → ClassId} {B0 pa : Nat} {B Q : Nat → Nat} {F : Nat → TC}
set_option maxHeartbeats 4000000 in
theorem s6_partsOf (h : AH) {x : Nat} (hx : x < 18) : CT la D cA B0 pa yX6_partsOf cX6_partsOf 1 (some .int) (rmD 0 0 0) [vI x] h (RP (vI (pF x)) h) := by
  refine CT_of (by decide +kernel) (Nat.le_of_ble_eq_true rfl) ?_
  intro p e s m args below meth c X E hr hlk hnm
  have dk : ∀ {pc : Nat} {q : Instr × Nat}, lkd DX6_partsOf pc = some q → decode cX6_partsOf pc = .ok q := lkd_ok DX6_partsOf_ok
  iterate 2 refine fst1_ok X (dk rfl) rfl ?_
  by_cases h10 : x < 10
  · refine br_ok X (dk rfl) rfl (show ((3 : Nat) : Int) + 25 = ((28 : Nat) : Int) from rfl) (fun _ => ?_) (fun q => absurd (by rw [nI_10]; exact (nI_ltI (by omega) (by omega)).mpr h10) q)
    refine fst1_ok X (dk rfl) rfl ?_
    have e : pF x = 0 := by unfold pF; rw [if_pos h10]
    rw [e]
    exact reti_ok X hr hlk rfl (dk rfl) ⟨rfl, rfl⟩ (Nat.le_of_ble_eq_true rfl) (Nat.le_of_ble_eq_true rfl)
  · refine br_ok X (dk rfl) rfl (show ((3 : Nat) : Int) + 25 = ((28 : Nat) : Int) from rfl) (fun q => absurd ((nI_ltI (by omega) (by omega)).mp (by rw [nI_10] at q; exact q)) h10) (fun _ => ?_)
    iterate 2 refine fst1_ok X (dk rfl) rfl ?_
    refine gets_ok X E gsX6_319 (dk rfl) ?_
    refine plen_ok X E (dk rfl) ?_
    refine fst1_ok X (dk rfl) rfl ?_
    refine br_ok X (dk rfl) rfl (show ((14 : Nat) : Int) + 14 = ((28 : Nat) : Int) from rfl) (fun q => absurd q (by rw [nI_10]; exact nI_ge (a := x) (b := 18) (by omega) (by omega))) (fun _ => ?_)
    refine gets_ok X E gsX6_319 (dk rfl) ?_
    iterate 3 refine fst1_ok X (dk rfl) rfl ?_
    rw [nI_10, nI_sub (by omega)]
    refine ptab_ok X E (vp_in_nI (show x - 10 < 8 by omega) (by decide)) (dk rfl) ?_
    rw [nI_clamp (by omega), partsF_at _ (by omega), show x - 10 + 10 = x by omega]
    refine br_ok X (dk rfl) rfl (show ((25 : Nat) : Int) + 4 = ((29 : Nat) : Int) from rfl) (fun _ => ?_) (fun q => absurd trivial q)
    exact reti_ok X hr hlk rfl (dk rfl) ⟨rfl, rfl⟩ (Nat.le_of_ble_eq_true rfl) (Nat.le_of_ble_eq_true rfl)
set_option maxHeartbeats 4000000 in
theorem s6_isName (h : AH) {x : Nat} (hx : x < 2 ^ 20) : CT la D cA B0 pa yX6_isName cX6_isName 1 (some .boolean) (rmD 0 0 0) [vI x] h (RP (.int (bI (decide (x < 8)))) h) := by
  refine CT_of (by decide +kernel) (Nat.le_of_ble_eq_true rfl) ?_
  intro p e s m args below meth c X E hr hlk hnm
  have dk : ∀ {pc : Nat} {q : Instr × Nat}, lkd DX6_isName pc = some q → decode cX6_isName pc = .ok q := lkd_ok DX6_isName_ok
  refine fst1_ok X (dk rfl) rfl ?_
  refine br_ok X (dk rfl) rfl (show ((1 : Nat) : Int) + 13 = ((14 : Nat) : Int) from rfl) (fun q => absurd q (nI_pos (by omega))) (fun _ => ?_)
  iterate 2 refine fst1_ok X (dk rfl) rfl ?_
  by_cases h8 : x < 8
  · rw [decide_eq_true h8]
    refine br_ok X (dk rfl) rfl (show ((7 : Nat) : Int) + 7 = ((14 : Nat) : Int) from rfl) (fun q => absurd q (by rw [nI_8']; exact nI_ge h8 (by omega))) (fun _ => ?_)
    refine fst1_ok X (dk rfl) rfl ?_
    refine br_ok X (dk rfl) rfl (show ((11 : Nat) : Int) + 4 = ((15 : Nat) : Int) from rfl) (fun _ => ?_) (fun q => absurd trivial q)
    exact reti_ok X hr hlk (bI_n true) (dk rfl) ⟨rfl, rfl⟩ (Nat.le_of_ble_eq_true rfl) (Nat.le_of_ble_eq_true rfl)
  · rw [decide_eq_false h8]
    refine br_ok X (dk rfl) rfl (show ((7 : Nat) : Int) + 7 = ((14 : Nat) : Int) from rfl) (fun _ => ?_) (fun q => absurd (by rw [nI_8']; exact (nI_leI (by omega) (by omega)).mpr (by omega)) q)
    refine fst1_ok X (dk rfl) rfl ?_
    exact reti_ok X hr hlk (bI_n false) (dk rfl) ⟨rfl, rfl⟩ (Nat.le_of_ble_eq_true rfl) (Nat.le_of_ble_eq_true rfl)
set_option maxHeartbeats 4000000 in
theorem s6_isHead (h : AH) {x : Nat} (hx : x < 2 ^ 20) : CT la D cA B0 pa yX6_isHead cX6_isHead 1 (some .boolean) (rmD 0 0 0) [vI x] h (RP (.int (bI (decide (10 ≤ x ∧ x < 18)))) h) := by
  refine CT_of (by decide +kernel) (Nat.le_of_ble_eq_true rfl) ?_
  intro p e s m args below meth c X E hr hlk hnm
  have dk : ∀ {pc : Nat} {q : Instr × Nat}, lkd DX6_isHead pc = some q → decode cX6_isHead pc = .ok q := lkd_ok DX6_isHead_ok
  iterate 2 refine fst1_ok X (dk rfl) rfl ?_
  by_cases h10 : x < 10
  · rw [decide_eq_false (fun z => by omega)]
    refine br_ok X (dk rfl) rfl (show ((3 : Nat) : Int) + 13 = ((16 : Nat) : Int) from rfl) (fun _ => ?_) (fun q => absurd (by rw [nI_10]; exact (nI_ltI (by omega) (by omega)).mpr h10) q)
    refine fst1_ok X (dk rfl) rfl ?_
    exact reti_ok X hr hlk (bI_n false) (dk rfl) ⟨rfl, rfl⟩ (Nat.le_of_ble_eq_true rfl) (Nat.le_of_ble_eq_true rfl)
  · refine br_ok X (dk rfl) rfl (show ((3 : Nat) : Int) + 13 = ((16 : Nat) : Int) from rfl) (fun q => absurd ((nI_ltI (by omega) (by omega)).mp (by rw [nI_10] at q; exact q)) h10) (fun _ => ?_)
    iterate 2 refine fst1_ok X (dk rfl) rfl ?_
    by_cases h18 : x < 18
    · rw [decide_eq_true ⟨by omega, h18⟩]
      refine br_ok X (dk rfl) rfl (show ((9 : Nat) : Int) + 7 = ((16 : Nat) : Int) from rfl) (fun q => absurd q (by rw [nI_18']; exact nI_ge h18 (by omega))) (fun _ => ?_)
      refine fst1_ok X (dk rfl) rfl ?_
      refine br_ok X (dk rfl) rfl (show ((13 : Nat) : Int) + 4 = ((17 : Nat) : Int) from rfl) (fun _ => ?_) (fun q => absurd trivial q)
      exact reti_ok X hr hlk (bI_n true) (dk rfl) ⟨rfl, rfl⟩ (Nat.le_of_ble_eq_true rfl) (Nat.le_of_ble_eq_true rfl)
    · rw [decide_eq_false (fun z => h18 z.2)]
      refine br_ok X (dk rfl) rfl (show ((9 : Nat) : Int) + 7 = ((16 : Nat) : Int) from rfl) (fun _ => ?_) (fun q => absurd (by rw [nI_18']; exact (nI_leI (by omega) (by omega)).mpr (by omega)) q)
      refine fst1_ok X (dk rfl) rfl ?_
      exact reti_ok X hr hlk (bI_n false) (dk rfl) ⟨rfl, rfl⟩ (Nat.le_of_ble_eq_true rfl) (Nat.le_of_ble_eq_true rfl)
set_option maxHeartbeats 4000000 in
theorem s6_isHead9 (h : AH)  : CT la D cA B0 pa yX6_isHead cX6_isHead 1 (some .boolean) (rmD 0 0 0) [.int (Int8.ofInt (-9)).toInt32] h (RP (.int (bI false)) h) := by
  refine CT_of (by decide +kernel) (Nat.le_of_ble_eq_true rfl) ?_
  intro p e s m args below meth c X E hr hlk hnm
  have dk : ∀ {pc : Nat} {q : Instr × Nat}, lkd DX6_isHead pc = some q → decode cX6_isHead pc = .ok q := lkd_ok DX6_isHead_ok
  iterate 2 refine fst1_ok X (dk rfl) rfl ?_
  refine br_ok X (dk rfl) rfl (show ((3 : Nat) : Int) + 13 = ((16 : Nat) : Int) from rfl) (fun _ => ?_) (fun q => absurd (by decide +kernel) q)
  refine fst1_ok X (dk rfl) rfl ?_
  exact reti_ok X hr hlk (bI_n false) (dk rfl) ⟨rfl, rfl⟩ (Nat.le_of_ble_eq_true rfl) (Nat.le_of_ble_eq_true rfl)
set_option maxHeartbeats 4000000 in
theorem s6_partsOf9 (h : AH)  : CT la D cA B0 pa yX6_partsOf cX6_partsOf 1 (some .int) (rmD 0 0 0) [.int (Int8.ofInt (-9)).toInt32] h (RP (vI 0) h) := by
  refine CT_of (by decide +kernel) (Nat.le_of_ble_eq_true rfl) ?_
  intro p e s m args below meth c X E hr hlk hnm
  have dk : ∀ {pc : Nat} {q : Instr × Nat}, lkd DX6_partsOf pc = some q → decode cX6_partsOf pc = .ok q := lkd_ok DX6_partsOf_ok
  iterate 2 refine fst1_ok X (dk rfl) rfl ?_
  refine br_ok X (dk rfl) rfl (show ((3 : Nat) : Int) + 25 = ((28 : Nat) : Int) from rfl) (fun _ => ?_) (fun q => absurd (by decide +kernel) q)
  refine fst1_ok X (dk rfl) rfl ?_
  exact reti_ok X hr hlk rfl (dk rfl) ⟨rfl, rfl⟩ (Nat.le_of_ble_eq_true rfl) (Nat.le_of_ble_eq_true rfl)
set_option maxHeartbeats 8000000 in
theorem s5_endOf (h : AH) (S : TS B Q h F) {i : Nat} (hi : i < 52) {ns : List Nat} (hN : TN (F i) ns) {p0 k0 : Nat} (hk : endL 1 (ns.drop p0) = some k0) : CT la D cA B0 pa yX5_endOf cX5_endOf 4 (some .int) (rmD 1 0 0) [.ref (B i), vI p0] h (RP (vI (p0 + k0)) h) := by
  refine CT_of (by decide +kernel) (Nat.le_of_ble_eq_true rfl) ?_
  intro p e s m args below meth c X E hr hlk hnm
  have dk : ∀ {pc : Nat} {q : Instr × Nat}, lkd DX5_endOf pc = some q → decode cX5_endOf pc = .ok q := lkd_ok DX5_endOf_ok
  have hL := rmI_le i
  have hlen := (S i hi).1
  rw [hN.len] at hlen
  obtain ⟨-, a2, -⟩ := S i hi
  rw [hN.len] at a2
  have hle := endL_le hk
  have hp := endL_pos (n := 0) hk
  rw [List.length_drop] at hle
  have loop : ∀ (ys : List Nat) (nd pl j : Nat), ns.drop pl = ys → endL nd ys = some j → pl + j = p0 + k0 → nd + ys.length * 4 < 2 ^ 20 → pl < 2 ^ 20 → ∀ l : List (Nat × Value), lsel l [3, 2, 0, 1] = [(3, vI pl), (2, vI nd), (0, .ref (B i)), (1, vI p0)] → WR p la e (rmD 1 0 0) s m args below meth c D cA B0 4 (RP (vI (p0 + k0)) h) 4 l [] h 0 0 := by
    intro ys
    induction ys with
    | nil =>
      intro nd pl j hd hj hpj hb hpl l hl
      cases nd with
      | succ nd => simp [endL] at hj
      | zero =>
        simp only [endL, Option.some.injEq] at hj
        subst hj
        have hge : ns.length ≤ pl := List.drop_eq_nil_iff.mp hd
        refine WS.sel [3, 2, 0, 1] hl ?_
        iterate 2 refine fst1_ok X (dk rfl) rfl ?_
        refine getf_ok X flX5_21 (dk rfl) a2 rfl ?_
        refine br_ok X (dk rfl) rfl (show ((9 : Nat) : Int) + 26 = ((35 : Nat) : Int) from rfl) (fun _ => ?_) (fun q => absurd (nI_le hge (by omega)) q)
        refine fst1_ok X (dk rfl) rfl ?_
        exact reti_ok X hr hlk rfl (dk rfl) ⟨by rw [← hpj]; rfl, rfl⟩ (Nat.le_of_ble_eq_true rfl) (Nat.le_of_ble_eq_true rfl)
    | cons y r ih =>
      intro nd pl j hd hj hpj hb hpl l hl
      have hlt : pl < ns.length := by
        rcases Nat.lt_or_ge pl ns.length with q | q
        · exact q
        · rw [List.drop_eq_nil_of_le q] at hd; cases hd
      have hy : ns[pl]? = some y := by
        have := congrArg (fun l : List Nat => l[0]?) hd
        simpa using this
      have hr' : ns.drop (pl + 1) = r := by
        have := congrArg List.tail hd
        simpa using this
      have hyx := (hN.2 y (List.mem_of_getElem? hy)).lt
      refine WS.sel [3, 2, 0, 1] hl ?_
      iterate 2 refine fst1_ok X (dk rfl) rfl ?_
      refine getf_ok X flX5_21 (dk rfl) a2 rfl ?_
      refine br_ok X (dk rfl) rfl (show ((9 : Nat) : Int) + 26 = ((35 : Nat) : Int) from rfl) (fun q => absurd q (nI_ge hlt (by omega))) (fun _ => ?_)
      refine fst1_ok X (dk rfl) rfl ?_
      cases nd with
      | zero =>
        simp only [endL, Option.some.injEq] at hj
        subst hj
        refine br_ok X (dk rfl) rfl (show ((13 : Nat) : Int) + 22 = ((35 : Nat) : Int) from rfl) (fun _ => ?_) (fun q => absurd (show nI 0 ≤ 0 by decide) q)
        refine fst1_ok X (dk rfl) rfl ?_
        exact reti_ok X hr hlk rfl (dk rfl) ⟨by rw [← hpj]; rfl, rfl⟩ (Nat.le_of_ble_eq_true rfl) (Nat.le_of_ble_eq_true rfl)
      | succ nd =>
        have hln : (y :: r).length = r.length + 1 := rfl
        rw [hln] at hb
        refine br_ok X (dk rfl) rfl (show ((13 : Nat) : Int) + 22 = ((35 : Nat) : Int) from rfl) (fun q => absurd q (nI_nle (Nat.succ_pos nd) (by omega))) (fun _ => ?_)
        simp only [endL, Option.map_eq_some_iff] at hj
        obtain ⟨j', hj', rfl⟩ := hj
        iterate 3 refine fst1_ok X (dk rfl) rfl ?_
        refine callVR_ok (ci := 7) (T := TX5) (N := 3) (av := [vI pl]) (r := [vI (nd + 1)]) X E (s5_letterAt h S hi (nI pl)) lkX5_letterAt mlX5_29 lmX5_letterAt lpX5_letterAt ⟨Nat.le_of_ble_eq_true rfl, Nat.le_of_ble_eq_true rfl⟩ ⟨Nat.le_of_ble_eq_true rfl, Nat.le_of_ble_eq_true rfl⟩ rfl ⟨_, (S i hi).2.1⟩ (Nat.le_of_ble_eq_true rfl) (dk rfl) ?_
        rintro _ rfl
        rw [hN.lt hy (by omega)]
        refine callNR_ok (av := [vI y]) (r := [vI (nd + 1)]) X E (s6_partsOf h hyx) lkX6_partsOf mnX5_59 lsX6_partsOf ⟨Nat.le_of_ble_eq_true rfl, Nat.le_of_ble_eq_true rfl⟩ ⟨Nat.le_of_ble_eq_true rfl, Nat.le_of_ble_eq_true rfl⟩ (Nat.le_of_ble_eq_true rfl) (dk rfl) ?_
        rintro _ rfl
        iterate 5 refine fst1_ok X (dk rfl) rfl ?_
        refine br_ok X (dk rfl) rfl (show ((32 : Nat) : Int) + (-28) = ((4 : Nat) : Int) from rfl) (fun _ => ?_) (fun q => absurd trivial q)
        have hpF := pF_le3 hyx
        have e1 : nI (nd + 1) + (nI (pF y) - Int32.ofInt 1) = nI (nd + pF y) := by
          rw [nI_1', ← nI_add, show nI nd + nI 1 + (nI (pF y) - nI 1) = nI nd + nI (pF y) by rw [Int32.add_assoc, Int32.add_comm (nI 1), Int32.sub_add_cancel]]
          exact nI_add _ _
        have f1 : Value.int (nI (nd + 1) + (nI (pF y) - Int32.ofInt 1)) = vI (nd + pF y) := congrArg Value.int e1
        have f2 : Value.int (nI pl + Int32.ofInt 1) = vI (pl + 1) := congrArg Value.int (by rw [nI_1', nI_add])
        refine WS.sel (l' := [(3, vI (pl + 1)), (2, vI (nd + pF y)), (0, .ref (B i)), (1, vI p0)]) [3, 2, 0, 1] (by rw [← f1, ← f2]; rfl) ?_
        exact ih (nd + pF y) (pl + 1) j' hr' hj' (by omega) (by omega) (by omega) _ rfl
  iterate 4 refine fst1_ok X (dk rfl) rfl ?_
  exact loop _ 1 p0 k0 rfl hk rfl (by rw [List.length_drop]; omega) (by omega) _ rfl
set_option maxHeartbeats 4000000 in
theorem s5_endOfN (h : AH) (S : TS B Q h F) {i : Nat} (hi : i < 52) {ns : List Nat} (hN : TN (F i) ns) : CT la D cA B0 pa yX5_endOf cX5_endOf 4 (some .int) (rmD 1 0 0) [.ref (B i), .int (Int32.ofInt (-1))] h (RP (vI 0) h) := by
  refine CT_of (by decide +kernel) (Nat.le_of_ble_eq_true rfl) ?_
  intro p e s m args below meth c X E hr hlk hnm
  have dk : ∀ {pc : Nat} {q : Instr × Nat}, lkd DX5_endOf pc = some q → decode cX5_endOf pc = .ok q := lkd_ok DX5_endOf_ok
  have hL := rmI_le i
  have hlen := (S i hi).1
  rw [hN.len] at hlen
  obtain ⟨-, a2, -⟩ := S i hi
  rw [hN.len] at a2
  iterate 6 refine fst1_ok X (dk rfl) rfl ?_
  refine getf_ok X flX5_21 (dk rfl) a2 rfl ?_
  refine br_ok X (dk rfl) rfl (show ((9 : Nat) : Int) + 26 = ((35 : Nat) : Int) from rfl) (fun q => absurd q (Int32.not_le.mpr (Int32.lt_of_lt_of_le (show Int32.ofInt (-1) < nI 0 by decide +kernel) (nI_le (Nat.zero_le _) (by omega))))) (fun _ => ?_)
  refine fst1_ok X (dk rfl) rfl ?_
  refine br_ok X (dk rfl) rfl (show ((13 : Nat) : Int) + 22 = ((35 : Nat) : Int) from rfl) (fun q => absurd q (by decide)) (fun _ => ?_)
  iterate 3 refine fst1_ok X (dk rfl) rfl ?_
  refine callVR_ok (ci := 7) (T := TX5) (N := 3) (av := [.int (Int32.ofInt (-1))]) (r := [.int (Int32.ofInt 1)]) X E (s5_letterAt h S hi (Int32.ofInt (-1))) lkX5_letterAt mlX5_29 lmX5_letterAt lpX5_letterAt ⟨Nat.le_of_ble_eq_true rfl, Nat.le_of_ble_eq_true rfl⟩ ⟨Nat.le_of_ble_eq_true rfl, Nat.le_of_ble_eq_true rfl⟩ rfl ⟨_, (S i hi).2.1⟩ (Nat.le_of_ble_eq_true rfl) (dk rfl) ?_
  rintro _ rfl
  rw [show ltX (F i).1 (Int32.ofInt (-1)) = (Int8.ofInt (-9)).toInt32 from if_pos (by decide)]
  refine callNR_ok (av := [.int (Int8.ofInt (-9)).toInt32]) (r := [.int (Int32.ofInt 1)]) X E (s6_partsOf9 h) lkX6_partsOf mnX5_59 lsX6_partsOf ⟨Nat.le_of_ble_eq_true rfl, Nat.le_of_ble_eq_true rfl⟩ ⟨Nat.le_of_ble_eq_true rfl, Nat.le_of_ble_eq_true rfl⟩ (Nat.le_of_ble_eq_true rfl) (dk rfl) ?_
  rintro _ rfl
  iterate 5 refine fst1_ok X (dk rfl) rfl ?_
  refine br_ok X (dk rfl) rfl (show ((32 : Nat) : Int) + (-28) = ((4 : Nat) : Int) from rfl) (fun _ => ?_) (fun q => absurd trivial q)
  iterate 2 refine fst1_ok X (dk rfl) rfl ?_
  refine getf_ok X flX5_21 (dk rfl) a2 rfl ?_
  rcases Nat.eq_zero_or_pos ns.length with z | z
  · rw [z]
    refine br_ok X (dk rfl) rfl (show ((9 : Nat) : Int) + 26 = ((35 : Nat) : Int) from rfl) (fun _ => ?_) (fun q => absurd (by decide +kernel) q)
    refine fst1_ok X (dk rfl) rfl ?_
    exact reti_ok X hr hlk rfl (dk rfl) ⟨congrArg (fun x => some (Value.int x)) (by decide +kernel), rfl⟩ (Nat.le_of_ble_eq_true rfl) (Nat.le_of_ble_eq_true rfl)
  · refine br_ok X (dk rfl) rfl (show ((9 : Nat) : Int) + 26 = ((35 : Nat) : Int) from rfl) (fun q => absurd q (by rw [show Int32.ofInt (-1) + Int32.ofInt 1 = nI 0 by decide +kernel]; exact nI_ge z (by omega))) (fun _ => ?_)
    refine fst1_ok X (dk rfl) rfl ?_
    refine br_ok X (dk rfl) rfl (show ((13 : Nat) : Int) + 22 = ((35 : Nat) : Int) from rfl) (fun _ => ?_) (fun q => absurd (by decide) q)
    refine fst1_ok X (dk rfl) rfl ?_
    exact reti_ok X hr hlk rfl (dk rfl) ⟨congrArg (fun x => some (Value.int x)) (by decide +kernel), rfl⟩ (Nat.le_of_ble_eq_true rfl) (Nat.le_of_ble_eq_true rfl)
set_option maxHeartbeats 16000000 in
theorem s5_isLikeAt (h : AH) (S : TS B Q h F) {i : Nat} (hi : i < 52) {ns : List Nat} (hN : TN (F i) ns) {u : Nat} (hu : u < 52) {ms : List Nat} (hM : TN (F u) ms) {p0 k0 p2 : Nat} (hp2 : p2 < 2 ^ 20) (hk : endL 1 (ns.drop p0) = some k0) : CT la D cA B0 pa yX5_isLikeAt cX5_isLikeAt 7 (some .boolean) (rmD 1 0 0) [.ref (B i), vI p0, .ref (B u), vI p2] h (RP (.int (bI (decide ((ns.drop p0).take k0 = (ms.drop p2).take k0)))) h) := by
  refine CT_of (by decide +kernel) (Nat.le_of_ble_eq_true rfl) ?_
  intro p e s m args below meth c X E hr hlk hnm
  have dk : ∀ {pc : Nat} {q : Instr × Nat}, lkd DX5_isLikeAt pc = some q → decode cX5_isLikeAt pc = .ok q := lkd_ok DX5_isLikeAt_ok
  have hL := rmI_le i
  have hL2 := rmI_le u
  have hlen := (S i hi).1
  rw [hN.len] at hlen
  have hlen2 := (S u hu).1
  rw [hM.len] at hlen2
  obtain ⟨-, a2, xs, a3, a4, -⟩ := S i hi
  have hle := endL_le hk
  rw [List.length_drop] at hle
  have loop : ∀ (ys : List Nat) (nd t j : Nat), ns.drop (p0 + t) = ys → endL nd ys = some j → t + j = k0 → nd + ys.length * 4 < 2 ^ 20 → (((ns.drop p0).take k0 = (ms.drop p2).take k0) ↔ (ns.drop (p0 + t)).take j = (ms.drop (p2 + t)).take j) → ∀ l : List (Nat × Value), lsel l [5, 4, 3, 2, 1, 0] = [(5, vI t), (4, vI nd), (3, vI p2), (2, .ref (B u)), (1, vI p0), (0, .ref (B i))] → WR p la e (rmD 1 0 0) s m args below meth c D cA B0 7 (RP (.int (bI (decide ((ns.drop p0).take k0 = (ms.drop p2).take k0)))) h) 6 l [] h 0 0 := by
    intro ys
    induction ys with
    | nil =>
      intro nd t j hd hj htj hb hiff l hl
      cases nd with
      | succ nd => simp [endL] at hj
      | zero =>
        simp only [endL, Option.some.injEq] at hj
        subst hj
        rw [decide_eq_true (hiff.mpr (by rw [List.take_zero, List.take_zero]))]
        refine WS.sel [5, 4, 3, 2, 1, 0] hl ?_
        refine fst1_ok X (dk rfl) rfl ?_
        refine br_ok X (dk rfl) rfl (show ((8 : Nat) : Int) + 63 = ((71 : Nat) : Int) from rfl) (fun _ => ?_) (fun q => absurd (show nI 0 ≤ 0 by decide) q)
        refine fst1_ok X (dk rfl) rfl ?_
        refine br_ok X (dk rfl) rfl (show ((73 : Nat) : Int) + 7 = ((80 : Nat) : Int) from rfl) (fun q => absurd (show nI 0 = 0 by decide) q) (fun _ => ?_)
        refine fst1_ok X (dk rfl) rfl ?_
        refine br_ok X (dk rfl) rfl (show ((77 : Nat) : Int) + 4 = ((81 : Nat) : Int) from rfl) (fun _ => ?_) (fun q => absurd trivial q)
        exact reti_ok X hr hlk (bI_n true) (dk rfl) ⟨rfl, rfl⟩ (Nat.le_of_ble_eq_true rfl) (Nat.le_of_ble_eq_true rfl)
    | cons y r ih =>
      intro nd t j hd hj htj hb hiff l hl
      refine WS.sel [5, 4, 3, 2, 1, 0] hl ?_
      refine fst1_ok X (dk rfl) rfl ?_
      cases nd with
      | zero =>
        simp only [endL, Option.some.injEq] at hj
        subst hj
        rw [decide_eq_true (hiff.mpr (by rw [List.take_zero, List.take_zero]))]
        refine br_ok X (dk rfl) rfl (show ((8 : Nat) : Int) + 63 = ((71 : Nat) : Int) from rfl) (fun _ => ?_) (fun q => absurd (show nI 0 ≤ 0 by decide) q)
        refine fst1_ok X (dk rfl) rfl ?_
        refine br_ok X (dk rfl) rfl (show ((73 : Nat) : Int) + 7 = ((80 : Nat) : Int) from rfl) (fun q => absurd (show nI 0 = 0 by decide) q) (fun _ => ?_)
        refine fst1_ok X (dk rfl) rfl ?_
        refine br_ok X (dk rfl) rfl (show ((77 : Nat) : Int) + 4 = ((81 : Nat) : Int) from rfl) (fun _ => ?_) (fun q => absurd trivial q)
        exact reti_ok X hr hlk (bI_n true) (dk rfl) ⟨rfl, rfl⟩ (Nat.le_of_ble_eq_true rfl) (Nat.le_of_ble_eq_true rfl)
      | succ nd =>
        have hln : (y :: r).length = r.length + 1 := rfl
        rw [hln] at hb
        have hy : ns[p0 + t]? = some y := by
          have := congrArg (fun l : List Nat => l[0]?) hd
          simpa using this
        have hr' : ns.drop (p0 + (t + 1)) = r := by
          have := congrArg List.tail hd
          simpa [Nat.add_assoc] using this
        have hlt := (List.getElem?_eq_some_iff.mp hy).1
        have hyx := (hN.2 y (List.mem_of_getElem? hy)).lt
        refine br_ok X (dk rfl) rfl (show ((8 : Nat) : Int) + 63 = ((71 : Nat) : Int) from rfl) (fun q => absurd q (nI_nle (Nat.succ_pos nd) (by omega))) (fun _ => ?_)
        simp only [endL, Option.map_eq_some_iff] at hj
        obtain ⟨j', hj', rfl⟩ := hj
        iterate 2 refine fst1_ok X (dk rfl) rfl ?_
        refine getf_ok X flX5_15 (dk rfl) a2 rfl ?_
        refine alen7_ok X (dk rfl) a3 a4 ?_
        refine br_ok X (dk rfl) rfl (show ((18 : Nat) : Int) + 53 = ((71 : Nat) : Int) from rfl) (fun q => absurd q (nI_ge (by omega) (by omega))) (fun _ => ?_)
        iterate 4 refine fst1_ok X (dk rfl) rfl ?_
        rw [nI_add]
        refine callVR_ok (ci := 7) (T := TX5) (N := 3) (av := [vI (p0 + t)]) (r := []) X E (s5_letterAt h S hi (nI (p0 + t))) lkX5_letterAt mlX5_29 lmX5_letterAt lpX5_letterAt ⟨Nat.le_of_ble_eq_true rfl, Nat.le_of_ble_eq_true rfl⟩ ⟨Nat.le_of_ble_eq_true rfl, Nat.le_of_ble_eq_true rfl⟩ rfl ⟨_, (S i hi).2.1⟩ (Nat.le_of_ble_eq_true rfl) (dk rfl) ?_
        rintro _ rfl
        rw [hN.lt hy (by omega)]
        iterate 3 refine fst1_ok X (dk rfl) rfl ?_
        refine br_ok X (dk rfl) rfl (show ((35 : Nat) : Int) + 16 = ((51 : Nat) : Int) from rfl) (fun q => absurd q (nI_m9 (by omega))) (fun _ => ?_)
        iterate 5 refine fst1_ok X (dk rfl) rfl ?_
        rw [nI_add]
        refine callVR_ok (ci := 7) (T := TX5) (N := 3) (av := [vI (p2 + t)]) (r := [vI y]) X E (s5_letterAt h S hu (nI (p2 + t))) lkX5_letterAt mlX5_29 lmX5_letterAt lpX5_letterAt ⟨Nat.le_of_ble_eq_true rfl, Nat.le_of_ble_eq_true rfl⟩ ⟨Nat.le_of_ble_eq_true rfl, Nat.le_of_ble_eq_true rfl⟩ rfl ⟨_, (S u hu).2.1⟩ (Nat.le_of_ble_eq_true rfl) (dk rfl) ?_
        rintro _ rfl
        have bad : ¬ ((ns.drop p0).take k0 = (ms.drop p2).take k0) → WR p la e (rmD 1 0 0) s m args below meth c D cA B0 7 (RP (.int (bI (decide ((ns.drop p0).take k0 = (ms.drop p2).take k0)))) h) 51 [(6, vI y), (5, vI t), (4, vI (nd + 1)), (3, vI p2), (2, .ref (B u)), (1, vI p0), (0, .ref (B i))] [] h 0 0 := by
          intro hne
          rw [decide_eq_false hne]
          refine fst1_ok X (dk rfl) rfl ?_
          exact reti_ok X hr hlk (bI_n false) (dk rfl) ⟨rfl, rfl⟩ (Nat.le_of_ble_eq_true rfl) (Nat.le_of_ble_eq_true rfl)
        rcases Nat.lt_or_ge (p2 + t) ms.length with hz | hz
        · obtain ⟨z, hz1⟩ : ∃ z, ms[p2 + t]? = some z := ⟨_, List.getElem?_eq_getElem hz⟩
          have hzx := (hM.2 z (List.mem_of_getElem? hz1)).lt
          rw [hM.lt hz1 (by omega)]
          rw [drop_cons hy, drop_cons hz1, List.take_succ_cons, List.take_succ_cons] at hiff
          by_cases hyz : y = z
          · subst hyz
            refine br_ok X (dk rfl) rfl (show ((48 : Nat) : Int) + 5 = ((53 : Nat) : Int) from rfl) (fun _ => ?_) (fun q => absurd rfl q)
            iterate 2 refine fst1_ok X (dk rfl) rfl ?_
            refine callNR_ok (av := [vI y]) (r := [vI (nd + 1)]) X E (s6_partsOf h hyx) lkX6_partsOf mnX5_59 lsX6_partsOf ⟨Nat.le_of_ble_eq_true rfl, Nat.le_of_ble_eq_true rfl⟩ ⟨Nat.le_of_ble_eq_true rfl, Nat.le_of_ble_eq_true rfl⟩ (Nat.le_of_ble_eq_true rfl) (dk rfl) ?_
            rintro _ rfl
            iterate 5 refine fst1_ok X (dk rfl) rfl ?_
            refine br_ok X (dk rfl) rfl (show ((68 : Nat) : Int) + (-62) = ((6 : Nat) : Int) from rfl) (fun _ => ?_) (fun q => absurd trivial q)
            have hpF := pF_le3 hyx
            have e1 : nI (nd + 1) + (nI (pF y) - Int32.ofInt 1) = nI (nd + pF y) := by
              rw [nI_1', ← nI_add, show nI nd + nI 1 + (nI (pF y) - nI 1) = nI nd + nI (pF y) by rw [Int32.add_assoc, Int32.add_comm (nI 1), Int32.sub_add_cancel]]
              exact nI_add _ _
            have f1 : Value.int (nI (nd + 1) + (nI (pF y) - Int32.ofInt 1)) = vI (nd + pF y) := congrArg Value.int e1
            have f2 : Value.int (nI t + Int32.ofInt 1) = vI (t + 1) := congrArg Value.int (by rw [nI_1', nI_add])
            refine WS.sel (l' := [(5, vI (t + 1)), (4, vI (nd + pF y)), (3, vI p2), (2, .ref (B u)), (1, vI p0), (0, .ref (B i))]) [5, 4, 3, 2, 1, 0] (by rw [← f1, ← f2]; rfl) ?_
            refine ih (nd + pF y) (t + 1) j' hr' hj' (by omega) (by omega) (hiff.trans ?_) _ rfl
            rw [List.cons.injEq]
            simp only [true_and]
            rfl
          · refine br_ok X (dk rfl) rfl (show ((48 : Nat) : Int) + 5 = ((53 : Nat) : Int) from rfl) (fun q => absurd ((nI_eq (by omega) (by omega)).mp q) hyz) (fun _ => ?_)
            exact bad (fun w => hyz (by have := hiff.mp w; rw [List.cons.injEq] at this; exact this.1))
        · rw [hM.out hz (by omega)]
          rw [drop_cons hy, List.drop_eq_nil_of_le hz, List.take_succ_cons, List.take_nil] at hiff
          refine br_ok X (dk rfl) rfl (show ((48 : Nat) : Int) + 5 = ((53 : Nat) : Int) from rfl) (fun q => absurd q (nI_m9 (by omega))) (fun _ => ?_)
          exact bad (fun w => by have := hiff.mp w; cases this)
  iterate 4 refine fst1_ok X (dk rfl) rfl ?_
  exact loop _ 1 0 k0 rfl hk (Nat.zero_add _) (by rw [List.length_drop]; omega) Iff.rfl _ rfl
set_option maxHeartbeats 4000000 in
theorem s5_isLike (h : AH) (S : TS B Q h F) {i : Nat} (hi : i < 52) {ns : List Nat} (hN : TN (F i) ns) {u : Nat} (hu : u < 52) {ms : List Nat} (hM : TN (F u) ms) (h1 : endL 1 ns = some ns.length) (h2 : endL 1 ms = some ms.length) : CT la D cA B0 pa yX5_isLike cX5_isLike 2 (some .boolean) (rmD 2 0 0) [.ref (B i), .ref (B u)] h (RP (.int (bI (decide (ns = ms)))) h) := by
  refine CT_of (by decide +kernel) (Nat.le_of_ble_eq_true rfl) ?_
  intro p e s m args below meth c X E hr hlk hnm
  have dk : ∀ {pc : Nat} {q : Instr × Nat}, lkd DX5_isLike pc = some q → decode cX5_isLike pc = .ok q := lkd_ok DX5_isLike_ok
  iterate 4 refine fst1_ok X (dk rfl) rfl ?_
  refine callVR_ok (ci := 7) (T := TX5) (N := 3) (av := [vI 0, .ref (B u), vI 0]) (r := []) X E (s5_isLikeAt h S hi hN hu hM (p0 := 0) (p2 := 0) (k0 := ns.length) (by decide) (by rw [List.drop_zero]; exact h1)) lkX5_isLikeAt mlX5_68 lmX5_isLikeAt lpX5_isLikeAt ⟨Nat.le_of_ble_eq_true rfl, Nat.le_of_ble_eq_true rfl⟩ ⟨Nat.le_of_ble_eq_true rfl, Nat.le_of_ble_eq_true rfl⟩ rfl ⟨_, (S i hi).2.1⟩ (Nat.le_of_ble_eq_true rfl) (dk rfl) ?_
  rintro _ rfl
  rw [List.drop_zero, List.drop_zero, List.take_length]
  have e : decide (ns = ms.take ns.length) = decide (ns = ms) := decide_eq_decide.mpr ⟨fun z => ?_, fun z => by rw [z, List.take_length]⟩
  · rw [e]
    exact reti_ok X hr hlk (bI_n _) (dk rfl) ⟨rfl, rfl⟩ (Nat.le_of_ble_eq_true rfl) (Nat.le_of_ble_eq_true rfl)
  · have h3 := endL_take ms 1 ms.length h2
    have h4 := endL_app (ms.take ns.length) (ms.drop ns.length) 1 ns.length (by rw [← z]; exact h1)
    rw [List.take_append_drop, h2] at h4
    have h5 : ms.length = ns.length := Option.some.inj h4
    rw [z, ← h5, List.take_length]
end S04
end Uc04like
section Uc05names
/-! the class, strongly: places of letters, names (printed by wip/p20/genS4.py) -/
def fpN (x : Nat) : List Nat → Nat
  | [] => 0
  | y :: r => if y = x then 0 else fpN x r + 1
theorem fpN_eq (x : Nat) (r : List Nat) : fpN x (x :: r) = 0 := if_pos rfl
theorem fpN_ne {x y : Nat} (h : ¬ y = x) (r : List Nat) : fpN x (y :: r) = fpN x r + 1 := if_neg h
section S05
variable {la : Launch} {D : va_G} {cA : Nat → ClassId} {B0 pa : Nat} {B Q : Nat → Nat} {F : Nat → TC}
set_option maxHeartbeats 8000000 in
theorem s5_firstPlaceOf (h : AH) (S : TS B Q h F) {i : Nat} (hi : i < 52) {ns : List Nat} (hN : TN (F i) ns) {x : Nat} (hx : x < 2 ^ 20) : CT la D cA B0 pa yX5_firstPlaceOf cX5_firstPlaceOf 3 (some .int) (rmD 1 0 0) [.ref (B i), vI x] h (RP (if fpN x ns < ns.length then vI (fpN x ns) else .int (Int32.ofInt (-1))) h) := by
  refine CT_of (by decide +kernel) (Nat.le_of_ble_eq_true rfl) ?_
  intro p e s m args below meth c X E hr hlk hnm
  have dk : ∀ {pc : Nat} {q : Instr × Nat}, lkd DX5_firstPlaceOf pc = some q → decode cX5_firstPlaceOf pc = .ok q := lkd_ok DX5_firstPlaceOf_ok
  have hL := rmI_le i
  have hlen := (S i hi).1
  rw [hN.len] at hlen
  obtain ⟨-, a2, -⟩ := S i hi
  rw [hN.len] at a2
  have loop : ∀ (d k : Nat), d = ns.length - k → k ≤ ns.length → fpN x ns = k + fpN x (ns.drop k) → ∀ l : List (Nat × Value), lsel l [2, 1, 0] = [(2, vI k), (1, vI x), (0, .ref (B i))] → WR p la e (rmD 1 0 0) s m args below meth c D cA B0 3 (RP (if fpN x ns < ns.length then vI (fpN x ns) else .int (Int32.ofInt (-1))) h) 2 l [] h 0 0 := by
    intro d
    induction d with
    | zero =>
      intro k hd hk e l hl
      have hk2 : k = ns.length := by omega
      subst hk2
      rw [List.drop_length] at e
      have e2 : fpN x ns = ns.length := e
      rw [if_neg (by omega)]
      refine WS.sel [2, 1, 0] hl ?_
      iterate 2 refine fst1_ok X (dk rfl) rfl ?_
      refine getf_ok X flX5_21 (dk rfl) a2 rfl ?_
      refine br_ok X (dk rfl) rfl (show ((7 : Nat) : Int) + 20 = ((27 : Nat) : Int) from rfl) (fun _ => ?_) (fun q => absurd (Int32.le_refl _) q)
      refine fst1_ok X (dk rfl) rfl ?_
      exact reti_ok X hr hlk rfl (dk rfl) ⟨rfl, rfl⟩ (Nat.le_of_ble_eq_true rfl) (Nat.le_of_ble_eq_true rfl)
    | succ d ih =>
      intro k hd hk e l hl
      obtain ⟨y, hy⟩ : ∃ y, ns[k]? = some y := ⟨_, List.getElem?_eq_getElem (by omega)⟩
      have hyx := (hN.2 y (List.mem_of_getElem? hy)).lt
      rw [drop_cons hy] at e
      refine WS.sel [2, 1, 0] hl ?_
      iterate 2 refine fst1_ok X (dk rfl) rfl ?_
      refine getf_ok X flX5_21 (dk rfl) a2 rfl ?_
      refine br_ok X (dk rfl) rfl (show ((7 : Nat) : Int) + 20 = ((27 : Nat) : Int) from rfl) (fun q => absurd q (nI_ge (by omega) (by omega))) (fun _ => ?_)
      iterate 2 refine fst1_ok X (dk rfl) rfl ?_
      refine callVR_ok (ci := 7) (T := TX5) (N := 3) (av := [vI k]) (r := []) X E (s5_letterAt h S hi (nI k)) lkX5_letterAt mlX5_29 lmX5_letterAt lpX5_letterAt ⟨Nat.le_of_ble_eq_true rfl, Nat.le_of_ble_eq_true rfl⟩ ⟨Nat.le_of_ble_eq_true rfl, Nat.le_of_ble_eq_true rfl⟩ rfl ⟨_, (S i hi).2.1⟩ (Nat.le_of_ble_eq_true rfl) (dk rfl) ?_
      rintro _ rfl
      rw [hN.lt hy (by omega)]
      refine fst1_ok X (dk rfl) rfl ?_
      by_cases hyz : y = x
      · subst hyz
        have e2 : fpN y ns = k := by rw [e, fpN_eq]; rfl
        rw [e2, if_pos (by omega)]
        refine br_ok X (dk rfl) rfl (show ((16 : Nat) : Int) + 5 = ((21 : Nat) : Int) from rfl) (fun q => absurd rfl q) (fun _ => ?_)
        refine fst1_ok X (dk rfl) rfl ?_
        exact reti_ok X hr hlk rfl (dk rfl) ⟨rfl, rfl⟩ (Nat.le_of_ble_eq_true rfl) (Nat.le_of_ble_eq_true rfl)
      · have e2 : fpN x ns = k + 1 + fpN x (ns.drop (k + 1)) := by rw [e, fpN_ne hyz]; omega
        refine br_ok X (dk rfl) rfl (show ((16 : Nat) : Int) + 5 = ((21 : Nat) : Int) from rfl) (fun _ => ?_) (fun q => absurd (fun z => hyz ((nI_eq (by omega) (by omega)).mp z)) q)
        refine fst1_ok X (dk rfl) rfl ?_
        refine br_ok X (dk rfl) rfl (show ((24 : Nat) : Int) + (-22) = ((2 : Nat) : Int) from rfl) (fun _ => ?_) (fun q => absurd trivial q)
        have f2 : Value.int (nI k + Int32.ofInt 1) = vI (k + 1) := congrArg Value.int (by rw [nI_1', nI_add])
        refine WS.sel (l' := [(2, vI (k + 1)), (1, vI x), (0, .ref (B i))]) [2, 1, 0] (by rw [← f2]; rfl) ?_
        exact ih (k + 1) (by omega) (by omega) e2 _ rfl
  iterate 2 refine fst1_ok X (dk rfl) rfl ?_
  exact loop _ 0 rfl (Nat.zero_le _) (by rw [List.drop_zero, Nat.zero_add]) _ rfl
set_option maxHeartbeats 8000000 in
theorem s5_placesOf (h : AH) (S : TS B Q h F) {i : Nat} (hi : i < 52) {ns : List Nat} (hN : TN (F i) ns) {x : Nat} (hx : x < 2 ^ 20) : CT la D cA B0 pa yX5_placesOf cX5_placesOf 4 (some .int) (rmD 1 0 0) [.ref (B i), vI x] h (RP (vI (oftenN ns x)) h) := by
  refine CT_of (by decide +kernel) (Nat.le_of_ble_eq_true rfl) ?_
  intro p e s m args below meth c X E hr hlk hnm
  have dk : ∀ {pc : Nat} {q : Instr × Nat}, lkd DX5_placesOf pc = some q → decode cX5_placesOf pc = .ok q := lkd_ok DX5_placesOf_ok
  have hL := rmI_le i
  have hlen := (S i hi).1
  rw [hN.len] at hlen
  obtain ⟨-, a2, -⟩ := S i hi
  rw [hN.len] at a2
  have loop : ∀ (d k : Nat), d = ns.length - k → k ≤ ns.length → ∀ l : List (Nat × Value), lsel l [3, 2, 1, 0] = [(3, vI k), (2, vI ((ns.take k).foldl (fun m z => if z = x then m + 1 else m) 0)), (1, vI x), (0, .ref (B i))] → WR p la e (rmD 1 0 0) s m args below meth c D cA B0 4 (RP (vI (oftenN ns x)) h) 4 l [] h 0 0 := by
    intro d
    induction d with
    | zero =>
      intro k hd hk l hl
      have hk2 : k = ns.length := by omega
      subst hk2
      rw [List.take_length] at hl
      refine WS.sel [3, 2, 1, 0] hl ?_
      iterate 2 refine fst1_ok X (dk rfl) rfl ?_
      refine getf_ok X flX5_21 (dk rfl) a2 rfl ?_
      refine br_ok X (dk rfl) rfl (show ((9 : Nat) : Int) + 21 = ((30 : Nat) : Int) from rfl) (fun _ => ?_) (fun q => absurd (Int32.le_refl _) q)
      refine fst1_ok X (dk rfl) rfl ?_
      exact reti_ok X hr hlk rfl (dk rfl) ⟨rfl, rfl⟩ (Nat.le_of_ble_eq_true rfl) (Nat.le_of_ble_eq_true rfl)
    | succ d ih =>
      intro k hd hk l hl
      obtain ⟨y, hy⟩ : ∃ y, ns[k]? = some y := ⟨_, List.getElem?_eq_getElem (by omega)⟩
      have hyx := (hN.2 y (List.mem_of_getElem? hy)).lt
      have hfs := foldl_take_succ (fun m z => if z = x then m + 1 else m) 0 hy
      refine WS.sel [3, 2, 1, 0] hl ?_
      iterate 2 refine fst1_ok X (dk rfl) rfl ?_
      refine getf_ok X flX5_21 (dk rfl) a2 rfl ?_
      refine br_ok X (dk rfl) rfl (show ((9 : Nat) : Int) + 21 = ((30 : Nat) : Int) from rfl) (fun q => absurd q (nI_ge (by omega) (by omega))) (fun _ => ?_)
      iterate 2 refine fst1_ok X (dk rfl) rfl ?_
      refine callVR_ok (ci := 7) (T := TX5) (N := 3) (av := [vI k]) (r := []) X E (s5_letterAt h S hi (nI k)) lkX5_letterAt mlX5_29 lmX5_letterAt lpX5_letterAt ⟨Nat.le_of_ble_eq_true rfl, Nat.le_of_ble_eq_true rfl⟩ ⟨Nat.le_of_ble_eq_true rfl, Nat.le_of_ble_eq_true rfl⟩ rfl ⟨_, (S i hi).2.1⟩ (Nat.le_of_ble_eq_true rfl) (dk rfl) ?_
      rintro _ rfl
      rw [hN.lt hy (by omega)]
      refine fst1_ok X (dk rfl) rfl ?_
      have f2 : Value.int (nI k + Int32.ofInt 1) = vI (k + 1) := congrArg Value.int (by rw [nI_1', nI_add])
      by_cases hyz : y = x
      · rw [if_pos hyz] at hfs
        refine br_ok X (dk rfl) rfl (show ((18 : Nat) : Int) + 6 = ((24 : Nat) : Int) from rfl) (fun q => absurd (by rw [hyz]) q) (fun _ => ?_)
        iterate 2 refine fst1_ok X (dk rfl) rfl ?_
        refine br_ok X (dk rfl) rfl (show ((27 : Nat) : Int) + (-23) = ((4 : Nat) : Int) from rfl) (fun _ => ?_) (fun q => absurd trivial q)
        have f3 : Value.int (nI ((ns.take k).foldl (fun m z => if z = x then m + 1 else m) 0) + Int32.ofInt 1) = vI ((ns.take (k + 1)).foldl (fun m z => if z = x then m + 1 else m) 0) := congrArg Value.int (by rw [nI_1', nI_add, hfs])
        refine WS.sel (l' := [(3, vI (k + 1)), (2, vI ((ns.take (k + 1)).foldl (fun m z => if z = x then m + 1 else m) 0)), (1, vI x), (0, .ref (B i))]) [3, 2, 1, 0] (by rw [← f2, ← f3]; rfl) ?_
        exact ih (k + 1) (by omega) (by omega) _ rfl
      · rw [if_neg hyz] at hfs
        refine br_ok X (dk rfl) rfl (show ((18 : Nat) : Int) + 6 = ((24 : Nat) : Int) from rfl) (fun _ => ?_) (fun q => absurd (fun z => hyz ((nI_eq (by omega) (by omega)).mp z)) q)
        refine fst1_ok X (dk rfl) rfl ?_
        refine br_ok X (dk rfl) rfl (show ((27 : Nat) : Int) + (-23) = ((4 : Nat) : Int) from rfl) (fun _ => ?_) (fun q => absurd trivial q)
        refine WS.sel (l' := [(3, vI (k + 1)), (2, vI ((ns.take (k + 1)).foldl (fun m z => if z = x then m + 1 else m) 0)), (1, vI x), (0, .ref (B i))]) [3, 2, 1, 0] (by rw [← f2, hfs]; rfl) ?_
        exact ih (k + 1) (by omega) (by omega) _ rfl
  iterate 4 refine fst1_ok X (dk rfl) rfl ?_
  exact loop _ 0 rfl (Nat.zero_le _) _ rfl
set_option maxHeartbeats 8000000 in
theorem s5_namesIn (h : AH) (S : TS B Q h F) {i : Nat} (hi : i < 52) {ns : List Nat} (hN : TN (F i) ns) {a b : Nat} (hab : a ≤ b) (hb : b ≤ ns.length) : CT la D cA B0 pa yX5_namesIn cX5_namesIn 6 (some .int) (rmD 1 0 0) [.ref (B i), vI a, vI b] h (RP (vI (namesN ((ns.drop a).take (b - a)))) h) := by
  refine CT_of (by decide +kernel) (Nat.le_of_ble_eq_true rfl) ?_
  intro p e s m args below meth c X E hr hlk hnm
  have dk : ∀ {pc : Nat} {q : Instr × Nat}, lkd DX5_namesIn pc = some q → decode cX5_namesIn pc = .ok q := lkd_ok DX5_namesIn_ok
  have hL := rmI_le i
  have hlen := (S i hi).1
  rw [hN.len] at hlen
  obtain ⟨-, a2, -⟩ := S i hi
  rw [hN.len] at a2
  have loop : ∀ (d k : Nat), d = (b - a) - k → k ≤ b - a → ∀ l : List (Nat × Value), lsel l [4, 3, 2, 0] = [(4, vI (a + k)), (3, vI ((((ns.drop a).take (b - a)).take k).foldl (fun m x => if x < 10 then m ||| 2 ^ x else m) 0)), (2, vI b), (0, .ref (B i))] → WR p la e (rmD 1 0 0) s m args below meth c D cA B0 6 (RP (vI (namesN ((ns.drop a).take (b - a)))) h) 5 l [] h 0 0 := by
    intro d
    induction d with
    | zero =>
      intro k hd hk l hl
      have hk2 : k = b - a := by omega
      have hln : ((ns.drop a).take (b - a)).length = b - a := by rw [List.length_take, List.length_drop]; omega
      rw [hk2, List.take_of_length_le (by omega : ((ns.drop a).take (b - a)).length ≤ b - a)] at hl
      refine WS.sel [4, 3, 2, 0] hl ?_
      iterate 2 refine fst1_ok X (dk rfl) rfl ?_
      refine br_ok X (dk rfl) rfl (show ((8 : Nat) : Int) + 32 = ((40 : Nat) : Int) from rfl) (fun _ => ?_) (fun q => absurd (nI_le (by omega) (by omega)) q)
      refine fst1_ok X (dk rfl) rfl ?_
      exact reti_ok X hr hlk rfl (dk rfl) ⟨rfl, rfl⟩ (Nat.le_of_ble_eq_true rfl) (Nat.le_of_ble_eq_true rfl)
    | succ d ih =>
      intro k hd hk l hl
      obtain ⟨y, hy⟩ : ∃ y, ns[a + k]? = some y := ⟨_, List.getElem?_eq_getElem (by omega)⟩
      have hy2 : ((ns.drop a).take (b - a))[k]? = some y := by rw [List.getElem?_take, if_pos (by omega), List.getElem?_drop]; exact hy
      have hok := hN.2 y (List.mem_of_getElem? hy)
      have hyx := hok.lt
      have hfs := foldl_take_succ (fun m x => if x < 10 then m ||| 2 ^ x else m) 0 hy2
      refine WS.sel [4, 3, 2, 0] hl ?_
      iterate 2 refine fst1_ok X (dk rfl) rfl ?_
      refine br_ok X (dk rfl) rfl (show ((8 : Nat) : Int) + 32 = ((40 : Nat) : Int) from rfl) (fun q => absurd q (nI_ge (by omega) (by omega))) (fun _ => ?_)
      iterate 2 refine fst1_ok X (dk rfl) rfl ?_
      refine callVR_ok (ci := 7) (T := TX5) (N := 3) (av := [vI (a + k)]) (r := []) X E (s5_letterAt h S hi (nI (a + k))) lkX5_letterAt mlX5_29 lmX5_letterAt lpX5_letterAt ⟨Nat.le_of_ble_eq_true rfl, Nat.le_of_ble_eq_true rfl⟩ ⟨Nat.le_of_ble_eq_true rfl, Nat.le_of_ble_eq_true rfl⟩ rfl ⟨_, (S i hi).2.1⟩ (Nat.le_of_ble_eq_true rfl) (dk rfl) ?_
      rintro _ rfl
      rw [hN.lt hy (by omega)]
      iterate 2 refine fst1_ok X (dk rfl) rfl ?_
      refine callNR_ok (av := [vI y]) (r := []) X E (s6_isName h (x := y) (by omega)) lkX6_isName mnX5_44 lsX6_isName ⟨Nat.le_of_ble_eq_true rfl, Nat.le_of_ble_eq_true rfl⟩ ⟨Nat.le_of_ble_eq_true rfl, Nat.le_of_ble_eq_true rfl⟩ (Nat.le_of_ble_eq_true rfl) (dk rfl) ?_
      rintro _ rfl
      have f2 : Value.int (nI (a + k) + Int32.ofInt 1) = vI (a + (k + 1)) := congrArg Value.int (by rw [nI_1', nI_add]; rfl)
      by_cases h8 : y < 8
      · rw [if_pos (by omega)] at hfs
        rw [decide_eq_true h8]
        refine br_ok X (dk rfl) rfl (show ((24 : Nat) : Int) + 10 = ((34 : Nat) : Int) from rfl) (fun q => absurd q bI_t) (fun _ => ?_)
        iterate 7 refine fst1_ok X (dk rfl) rfl ?_
        refine br_ok X (dk rfl) rfl (show ((37 : Nat) : Int) + (-32) = ((5 : Nat) : Int) from rfl) (fun _ => ?_) (fun q => absurd trivial q)
        have f3 : Value.int (nI ((((ns.drop a).take (b - a)).take k).foldl (fun m x => if x < 10 then m ||| 2 ^ x else m) 0) ||| Int32.ofInt 1 <<< (nI y &&& 31)) = vI ((((ns.drop a).take (b - a)).take (k + 1)).foldl (fun m x => if x < 10 then m ||| 2 ^ x else m) 0) := congrArg Value.int (by rw [shl1 y (by omega), nI_or, hfs])
        refine WS.sel (l' := [(4, vI (a + (k + 1))), (3, vI ((((ns.drop a).take (b - a)).take (k + 1)).foldl (fun m x => if x < 10 then m ||| 2 ^ x else m) 0)), (2, vI b), (0, .ref (B i))]) [4, 3, 2, 0] (by rw [← f2, ← f3]; rfl) ?_
        exact ih (k + 1) (by omega) (by omega) _ rfl
      · rw [if_neg (by rcases hok with z | z <;> omega)] at hfs
        rw [decide_eq_false h8]
        refine br_ok X (dk rfl) rfl (show ((24 : Nat) : Int) + 10 = ((34 : Nat) : Int) from rfl) (fun _ => ?_) (fun q => absurd bI_f' q)
        refine fst1_ok X (dk rfl) rfl ?_
        refine br_ok X (dk rfl) rfl (show ((37 : Nat) : Int) + (-32) = ((5 : Nat) : Int) from rfl) (fun _ => ?_) (fun q => absurd trivial q)
        refine WS.sel (l' := [(4, vI (a + (k + 1))), (3, vI ((((ns.drop a).take (b - a)).take (k + 1)).foldl (fun m x => if x < 10 then m ||| 2 ^ x else m) 0)), (2, vI b), (0, .ref (B i))]) [4, 3, 2, 0] (by rw [← f2, hfs]; rfl) ?_
        exact ih (k + 1) (by omega) (by omega) _ rfl
  iterate 4 refine fst1_ok X (dk rfl) rfl ?_
  exact loop _ 0 rfl (Nat.zero_le _) _ (by rw [Nat.add_zero]; rfl)
set_option maxHeartbeats 4000000 in
theorem s5_allNames (h : AH) (S : TS B Q h F) {i : Nat} (hi : i < 52) {ns : List Nat} (hN : TN (F i) ns) : CT la D cA B0 pa yX5_allNames cX5_allNames 1 (some .int) (rmD 2 0 0) [.ref (B i)] h (RP (vI (namesN ns)) h) := by
  refine CT_of (by decide +kernel) (Nat.le_of_ble_eq_true rfl) ?_
  intro p e s m args below meth c X E hr hlk hnm
  have dk : ∀ {pc : Nat} {q : Instr × Nat}, lkd DX5_allNames pc = some q → decode cX5_allNames pc = .ok q := lkd_ok DX5_allNames_ok
  have hL := rmI_le i
  have hlen := (S i hi).1
  rw [hN.len] at hlen
  obtain ⟨-, a2, -⟩ := S i hi
  rw [hN.len] at a2
  iterate 3 refine fst1_ok X (dk rfl) rfl ?_
  refine getf_ok X flX5_21 (dk rfl) a2 rfl ?_
  refine callVR_ok (ci := 7) (T := TX5) (N := 3) (av := [vI 0, vI ns.length]) (r := []) X E (s5_namesIn h S hi hN (Nat.zero_le _) (Nat.le_refl _)) lkX5_namesIn mlX5_51 lmX5_namesIn lpX5_namesIn ⟨Nat.le_of_ble_eq_true rfl, Nat.le_of_ble_eq_true rfl⟩ ⟨Nat.le_of_ble_eq_true rfl, Nat.le_of_ble_eq_true rfl⟩ rfl ⟨_, (S i hi).2.1⟩ (Nat.le_of_ble_eq_true rfl) (dk rfl) ?_
  rintro _ rfl
  rw [List.drop_zero, Nat.sub_zero, List.take_length]
  exact reti_ok X hr hlk rfl (dk rfl) ⟨rfl, rfl⟩ (Nat.le_of_ble_eq_true rfl) (Nat.le_of_ble_eq_true rfl)
end S05
end Uc05names
section Uc06ans
/-! the class, strongly: answers (printed by wip/p20/genS5.py) -/
def rgB (B : Nat → Nat) (f n : Nat) : List Nat := (List.range n).map (fun k => B (f + k))
theorem rgB_get (B : Nat → Nat) (f : Nat) {n k : Nat} (h : k < n) : (rgB B f n)[k]? = some (B (f + k)) := by
  unfold rgB
  rw [List.getElem?_map, List.getElem?_range h]
  rfl
/-- an answer: its terms stand at f, f + 1 .. -/
def AnO (B : Nat → Nat) (h : AH) (o f : Nat) : Prop := f + 8 ≤ 50 ∧ ∃ arr, h o = some (2, [.ref arr]) ∧ h arr = some (103, (rgB B f 8).map Value.ref)
theorem AnO.keep {B Q : Nat → Nat} {h h' : AH} {F : Nat → TC} {o f : Nat} (H : AnO B h o f) (S : TS B Q h F) (x : FrT B Q h h') : AnO B h' o f := by
  obtain ⟨h1, arr, h2, h3⟩ := H
  exact ⟨h1, arr, x.keep S h2 (by decide) (by decide), x.keep S h3 (by decide) (by decide)⟩
/-- eight terms at f become others, the first k of them -/
def upK (F : Nat → TC) (f : Nat) (G : Nat → TC) (k : Nat) : Nat → TC := fun j => if f ≤ j ∧ j < f + k then G (j - f) else F j
theorem upK_0 (F : Nat → TC) (f : Nat) (G : Nat → TC) : upK F f G 0 = F := by
  funext j
  unfold upK
  rw [if_neg (by omega)]
theorem upK_in (F : Nat → TC) (f : Nat) (G : Nat → TC) {k n : Nat} (h : n < k) : upK F f G k (f + n) = G n := by
  unfold upK
  rw [if_pos (by omega), Nat.add_sub_cancel_left]
theorem upK_out (F : Nat → TC) (f : Nat) (G : Nat → TC) {k j : Nat} (h : j < f ∨ f + k ≤ j) : upK F f G k j = F j := if_neg (by omega)
theorem upK_up (F : Nat → TC) (f : Nat) (G : Nat → TC) (k : Nat) : upF (upK F f G k) (f + k) (G k) = upK F f G (k + 1) := by
  funext j
  unfold upF upK
  by_cases e : j = f + k
  · subst e
    rw [if_pos rfl, if_pos (by omega), Nat.add_sub_cancel_left]
  · rw [if_neg e]
    by_cases h : f ≤ j ∧ j < f + k
    · rw [if_pos h, if_pos (by omega)]
    · rw [if_neg h, if_neg (by omega)]
/-- what an answer tells -/
def RWX (F : Nat → TC) (f : Nat) (rows : List (List Nat)) : Prop := rows.length = 8 ∧ ∀ n, n < 8 → ∃ ns, rows[n]? = some ns ∧ F (f + n) = (ns.map nI, false) ∧ TW ns ∧ ns.length ≤ 16
theorem RWX.tn {F : Nat → TC} {f : Nat} {rows : List (List Nat)} (H : RWX F f rows) {n : Nat} (hn : n < 8) : ∃ ns, rows[n]? = some ns ∧ TN (F (f + n)) ns ∧ TW ns ∧ ns.length ≤ 16 := by
  obtain ⟨ns, h1, h2, h3, h4⟩ := H.2 n hn
  exact ⟨ns, h1, ⟨by rw [h2], h3.2⟩, h3, h4⟩
theorem RWX.ao {F : Nat → TC} {f : Nat} {rows : List (List Nat)} (H : RWX F f rows) : AO rows := by
  refine ⟨H.1, fun r hr => ?_⟩
  obtain ⟨n, hn, e⟩ := List.mem_iff_getElem.mp hr
  obtain ⟨ns, h1, -, h3, h4⟩ := H.2 n (by rw [← H.1]; exact hn)
  rw [List.getElem?_eq_getElem hn, e] at h1
  cases h1
  exact ⟨h3, h4⟩
/-- an answer used on a row, into a term -/
def auC (L : Nat) (F : Nat → TC) (u : Nat) (t : TC) (ns : List Nat) : TC := ns.foldl (fun t x => if x < 8 then addT L t (F (u + x)) else addC L t (nI x)) t
theorem auC_rows {L u : Nat} {F : Nat → TC} {rows : List (List Nat)} (H : RWX F u rows) : ∀ (ns : List Nat) (t : TC), (∀ x ∈ ns, okL x) → t.1.length ≤ L → auC L F u t ns = addR L t ((usedL rows ns).map nI) := by
  intro ns
  induction ns with
  | nil => intro t _ _; rfl
  | cons x r ih =>
    intro t hx ht
    have e1 : usedL rows (x :: r) = useL rows x ++ usedL rows r := List.flatMap_cons
    have e2 : addR L t ((useL rows x ++ usedL rows r).map nI) = addR L (addR L t ((useL rows x).map nI)) ((usedL rows r).map nI) := by
      unfold addR
      rw [List.map_append, List.foldl_append]
    have e3 : (if x < 8 then addT L t (F (u + x)) else addC L t (nI x)) = addR L t ((useL rows x).map nI) := by
      rcases hx x List.mem_cons_self with h8 | h8
      · obtain ⟨ys, y1, y2, -, -⟩ := H.2 x h8
        rw [if_pos h8, y2]
        unfold useL
        rw [if_pos (by omega), List.getD_eq_getElem?_getD, y1]
        show addT L t (ys.map nI, false) = addR L t (ys.map nI)
        unfold addT
        exact Prod.ext rfl (Bool.or_false _)
      · rw [if_neg (by omega)]
        unfold useL
        rw [if_neg (by omega)]
        rfl
    rw [e1, e2, ← e3]
    refine ih _ (fun y hy => hx y (List.mem_cons_of_mem _ hy)) ?_
    show (if x < 8 then addT L t (F (u + x)) else addC L t (nI x)).1.length ≤ L
    rw [e3]
    exact addR_len ht _
section S06
variable {la : Launch} {D : va_G} {cA : Nat → ClassId} {B0 pa : Nat} {B Q : Nat → Nat} {F : Nat → TC}
set_option maxHeartbeats 8000000 in
theorem s0_moves (h : AH) (S : TS B Q h F) {o f : Nat} (O : AnO B h o f) {n : Nat} (hn : n < 8) {ns : List Nat} (hN : TN (F (f + n)) ns) : CT la D cA B0 pa yX0_moves cX0_moves 2 (some .boolean) (rmD 1 0 0) [.ref o, vI n] h (RP (.int (bI (decide (ns ≠ [n])))) h) := by
  refine CT_of (by decide +kernel) (Nat.le_of_ble_eq_true rfl) ?_
  intro p e s m args below meth c X E hr hlk hnm
  have dk : ∀ {pc : Nat} {q : Instr × Nat}, lkd DX0_moves pc = some q → decode cX0_moves pc = .ok q := lkd_ok DX0_moves_ok
  obtain ⟨of, arr, o1, o2⟩ := id O
  have hL := rmI_le (f + n)
  have hlen := (S (f + n) (by omega)).1
  rw [hN.len] at hlen
  refine fst1_ok X (dk rfl) rfl ?_
  refine callNR_ok (av := [vI n]) (r := []) X E (s6_isName h (x := n) (by omega)) lkX6_isName mnX0_23 lsX6_isName ⟨Nat.le_of_ble_eq_true rfl, Nat.le_of_ble_eq_true rfl⟩ ⟨Nat.le_of_ble_eq_true rfl, Nat.le_of_ble_eq_true rfl⟩ (Nat.le_of_ble_eq_true rfl) (dk rfl) ?_
  rintro _ rfl
  rw [decide_eq_true hn]
  refine br_ok X (dk rfl) rfl (show ((4 : Nat) : Int) + 34 = ((38 : Nat) : Int) from rfl) (fun q => absurd q bI_t) (fun _ => ?_)
  refine fst1_ok X (dk rfl) rfl ?_
  refine getf_ok X flX0_11 (dk rfl) o1 rfl ?_
  refine fst1_ok X (dk rfl) rfl ?_
  refine aldr_ok X (Or.inl rfl) (dk rfl) o2 (by omega) (rgB_get B f (k := n) (by omega)) ?_
  refine callVR_ok (ci := 7) (T := TX5) (N := 3) (av := []) (r := []) X E (s5_length h S (i := f + n) (by omega)) lkX5_length mlX0_34 lmX5_length lpX5_length ⟨Nat.le_of_ble_eq_true rfl, Nat.le_of_ble_eq_true rfl⟩ ⟨Nat.le_of_ble_eq_true rfl, Nat.le_of_ble_eq_true rfl⟩ rfl ⟨_, (S (f + n) (by omega)).2.1⟩ (Nat.le_of_ble_eq_true rfl) (dk rfl) ?_
  rintro _ rfl
  rw [hN.len]
  refine fst1_ok X (dk rfl) rfl ?_
  by_cases h1 : ns.length = 1
  · refine br_ok X (dk rfl) rfl (show ((17 : Nat) : Int) + 17 = ((34 : Nat) : Int) from rfl) (fun q => absurd (by rw [h1]; exact nI_1'.symm) q) (fun _ => ?_)
    refine fst1_ok X (dk rfl) rfl ?_
    refine getf_ok X flX0_11 (dk rfl) o1 rfl ?_
    refine fst1_ok X (dk rfl) rfl ?_
    refine aldr_ok X (Or.inl rfl) (dk rfl) o2 (by omega) (rgB_get B f (k := n) (by omega)) ?_
    refine fst1_ok X (dk rfl) rfl ?_
    refine callVR_ok (ci := 7) (T := TX5) (N := 3) (av := [vI 0]) (r := []) X E (s5_letterAt h S (i := f + n) (by omega) (nI 0)) lkX5_letterAt mlX0_38 lmX5_letterAt lpX5_letterAt ⟨Nat.le_of_ble_eq_true rfl, Nat.le_of_ble_eq_true rfl⟩ ⟨Nat.le_of_ble_eq_true rfl, Nat.le_of_ble_eq_true rfl⟩ rfl ⟨_, (S (f + n) (by omega)).2.1⟩ (Nat.le_of_ble_eq_true rfl) (dk rfl) ?_
    rintro _ rfl
    obtain ⟨y, hy⟩ : ∃ y, ns[0]? = some y := ⟨_, List.getElem?_eq_getElem (by omega)⟩
    have hyx := (hN.2 y (List.mem_of_getElem? hy)).lt
    rw [hN.lt hy (by omega)]
    have ens : ns = [y] := by
      match ns, h1, hy with
      | [z], _, hy => cases hy; rfl
    refine fst1_ok X (dk rfl) rfl ?_
    by_cases hyn : y = n
    · rw [decide_eq_false (fun z => z (by rw [ens, hyn]))]
      refine br_ok X (dk rfl) rfl (show ((31 : Nat) : Int) + 7 = ((38 : Nat) : Int) from rfl) (fun _ => ?_) (fun q => absurd (by rw [hyn]) q)
      refine fst1_ok X (dk rfl) rfl ?_
      exact reti_ok X hr hlk (bI_n false) (dk rfl) ⟨rfl, rfl⟩ (Nat.le_of_ble_eq_true rfl) (Nat.le_of_ble_eq_true rfl)
    · rw [decide_eq_true (show ns ≠ [n] from fun z => hyn (by rw [ens] at z; cases z; rfl))]
      refine br_ok X (dk rfl) rfl (show ((31 : Nat) : Int) + 7 = ((38 : Nat) : Int) from rfl) (fun q => absurd ((nI_eq (by omega) (by omega)).mp q) hyn) (fun _ => ?_)
      refine fst1_ok X (dk rfl) rfl ?_
      refine br_ok X (dk rfl) rfl (show ((35 : Nat) : Int) + 4 = ((39 : Nat) : Int) from rfl) (fun _ => ?_) (fun q => absurd trivial q)
      exact reti_ok X hr hlk (bI_n true) (dk rfl) ⟨rfl, rfl⟩ (Nat.le_of_ble_eq_true rfl) (Nat.le_of_ble_eq_true rfl)
  · rw [decide_eq_true (show ns ≠ [n] from fun z => h1 (by rw [z]; rfl))]
    refine br_ok X (dk rfl) rfl (show ((17 : Nat) : Int) + 17 = ((34 : Nat) : Int) from rfl) (fun _ => ?_) (fun q => absurd (fun z => h1 ((nI_eq (by omega) (by omega)).mp (z.trans nI_1'))) q)
    refine fst1_ok X (dk rfl) rfl ?_
    refine br_ok X (dk rfl) rfl (show ((35 : Nat) : Int) + 4 = ((39 : Nat) : Int) from rfl) (fun _ => ?_) (fun q => absurd trivial q)
    exact reti_ok X hr hlk (bI_n true) (dk rfl) ⟨rfl, rfl⟩ (Nat.le_of_ble_eq_true rfl) (Nat.le_of_ble_eq_true rfl)
set_option maxHeartbeats 8000000 in
theorem s0_movedNames (h : AH) (S : TS B Q h F) {o f : Nat} (O : AnO B h o f) {rows : List (List Nat)} (H : RWX F f rows) : CT la D cA B0 pa yX0_movedNames cX0_movedNames 3 (some .int) (rmD 2 0 0) [.ref o] h (RP (vI (movedN rows 8)) h) := by
  refine CT_of (by decide +kernel) (Nat.le_of_ble_eq_true rfl) ?_
  intro p e s m args below meth c X E hr hlk hnm
  have dk : ∀ {pc : Nat} {q : Instr × Nat}, lkd DX0_movedNames pc = some q → decode cX0_movedNames pc = .ok q := lkd_ok DX0_movedNames_ok
  have loop : ∀ (d k : Nat), d = 8 - k → k ≤ 8 → ∀ l : List (Nat × Value), lsel l [2, 1, 0] = [(2, vI k), (1, vI (movedN rows k)), (0, .ref o)] → WR p la e (rmD 2 0 0) s m args below meth c D cA B0 3 (RP (vI (movedN rows 8)) h) 4 l [] h 0 0 := by
    intro d
    induction d with
    | zero =>
      intro k hd hk l hl
      have hk2 : k = 8 := by omega
      subst hk2
      refine WS.sel [2, 1, 0] hl ?_
      iterate 2 refine fst1_ok X (dk rfl) rfl ?_
      refine br_ok X (dk rfl) rfl (show ((7 : Nat) : Int) + 23 = ((30 : Nat) : Int) from rfl) (fun _ => ?_) (fun q => absurd (by rw [nI_8']; exact Int32.le_refl _) q)
      refine fst1_ok X (dk rfl) rfl ?_
      exact reti_ok X hr hlk rfl (dk rfl) ⟨rfl, rfl⟩ (Nat.le_of_ble_eq_true rfl) (Nat.le_of_ble_eq_true rfl)
    | succ d ih =>
      intro k hd hk l hl
      obtain ⟨ns, n1, n2, -, -⟩ := H.tn (n := k) (by omega)
      refine WS.sel [2, 1, 0] hl ?_
      iterate 2 refine fst1_ok X (dk rfl) rfl ?_
      refine br_ok X (dk rfl) rfl (show ((7 : Nat) : Int) + 23 = ((30 : Nat) : Int) from rfl) (fun q => absurd q (by rw [nI_8']; exact nI_ge (by omega) (by omega))) (fun _ => ?_)
      iterate 2 refine fst1_ok X (dk rfl) rfl ?_
      refine callVR_ok (ci := 2) (T := TX0) (N := 1) (av := [vI k]) (r := []) X E (s0_moves h S O (n := k) (by omega) n2) lkX0_moves mlX0_42 lmX0_moves lpX0_moves ⟨Nat.le_of_ble_eq_true rfl, Nat.le_of_ble_eq_true rfl⟩ ⟨Nat.le_of_ble_eq_true rfl, Nat.le_of_ble_eq_true rfl⟩ rfl ⟨_, O.2.choose_spec.1⟩ (Nat.le_of_ble_eq_true rfl) (dk rfl) ?_
      rintro _ rfl
      have f2 : Value.int (nI k + Int32.ofInt 1) = vI (k + 1) := congrArg Value.int (by rw [nI_1', nI_add])
      by_cases e : ns = [k]
      · have hm : movedN rows (k + 1) = movedN rows k := by
          show (if rows[k]? = some [k] then _ else _) = _
          rw [if_pos (by rw [n1, e])]
        rw [decide_eq_false (fun z => z e)]
        refine br_ok X (dk rfl) rfl (show ((15 : Nat) : Int) + 9 = ((24 : Nat) : Int) from rfl) (fun _ => ?_) (fun q => absurd bI_f' q)
        refine fst1_ok X (dk rfl) rfl ?_
        refine br_ok X (dk rfl) rfl (show ((27 : Nat) : Int) + (-23) = ((4 : Nat) : Int) from rfl) (fun _ => ?_) (fun q => absurd trivial q)
        refine WS.sel (l' := [(2, vI (k + 1)), (1, vI (movedN rows (k + 1))), (0, .ref o)]) [2, 1, 0] (by rw [← f2, hm]; rfl) ?_
        exact ih (k + 1) (by omega) (by omega) _ rfl
      · have hm : movedN rows (k + 1) = movedN rows k ||| 2 ^ k := by
          show (if rows[k]? = some [k] then _ else _) = _
          rw [if_neg (by rw [n1]; exact fun z => e (Option.some.inj z))]
        rw [decide_eq_true e]
        refine br_ok X (dk rfl) rfl (show ((15 : Nat) : Int) + 9 = ((24 : Nat) : Int) from rfl) (fun q => absurd q bI_t) (fun _ => ?_)
        iterate 7 refine fst1_ok X (dk rfl) rfl ?_
        refine br_ok X (dk rfl) rfl (show ((27 : Nat) : Int) + (-23) = ((4 : Nat) : Int) from rfl) (fun _ => ?_) (fun q => absurd trivial q)
        have f3 : Value.int (nI (movedN rows k) ||| Int32.ofInt 1 <<< (nI k &&& 31)) = vI (movedN rows (k + 1)) := congrArg Value.int (by rw [shl1 k (by omega), nI_or, hm])
        refine WS.sel (l' := [(2, vI (k + 1)), (1, vI (movedN rows (k + 1))), (0, .ref o)]) [2, 1, 0] (by rw [← f2, ← f3]; rfl) ?_
        exact ih (k + 1) (by omega) (by omega) _ rfl
  iterate 4 refine fst1_ok X (dk rfl) rfl ?_
  exact loop _ 0 rfl (Nat.zero_le _) _ rfl
set_option maxHeartbeats 4000000 in
theorem s0_movedCount (h : AH) (S : TS B Q h F) {o f : Nat} (O : AnO B h o f) {rows : List (List Nat)} (H : RWX F f rows) : CT la D cA B0 pa yX0_movedCount cX0_movedCount 1 (some .int) (rmD 3 0 0) [.ref o] h (RP (.int (bcF (nI (movedN rows 8)))) h) := by
  refine CT_of (by decide +kernel) (Nat.le_of_ble_eq_true rfl) ?_
  intro p e s m args below meth c X E hr hlk hnm
  have dk : ∀ {pc : Nat} {q : Instr × Nat}, lkd DX0_movedCount pc = some q → decode cX0_movedCount pc = .ok q := lkd_ok DX0_movedCount_ok
  refine fst1_ok X (dk rfl) rfl ?_
  refine callVR_ok (ci := 2) (T := TX0) (N := 1) (av := []) (r := []) X E (s0_movedNames h S O H) lkX0_movedNames mlX0_45 lmX0_movedNames lpX0_movedNames ⟨Nat.le_of_ble_eq_true rfl, Nat.le_of_ble_eq_true rfl⟩ ⟨Nat.le_of_ble_eq_true rfl, Nat.le_of_ble_eq_true rfl⟩ rfl ⟨_, O.2.choose_spec.1⟩ (Nat.le_of_ble_eq_true rfl) (dk rfl) ?_
  rintro _ rfl
  refine callS_ok (av := [vI (movedN rows 8)]) (r := []) X E (c_bitCount h _) lkJ6_bitCount_0f7a4 mlX0_48 lsJ6_bitCount_0f7a4 ⟨Nat.le_of_ble_eq_true rfl, Nat.le_of_ble_eq_true rfl⟩ ⟨Nat.le_of_ble_eq_true rfl, Nat.le_of_ble_eq_true rfl⟩ (Nat.le_of_ble_eq_true rfl) (dk rfl) ?_
  rintro v h' ⟨rfl, rfl⟩
  exact reti_ok X hr hlk rfl (dk rfl) ⟨rfl, rfl⟩ (Nat.le_of_ble_eq_true rfl) (Nat.le_of_ble_eq_true rfl)
def tlA (F : Nat → TC) (f : Nat) : Nat → Bool
  | 0 => false
  | k + 1 => tlA F f k || (F (f + k)).2
theorem tlA_le (F : Nat → TC) (f : Nat) {k : Nat} (h : (F (f + k)).2 = true) : ∀ n, k < n → tlA F f n = true
  | n + 1, hn => by
    unfold tlA
    rcases Nat.lt_or_ge k n with q | q
    · rw [tlA_le F f h n q]; rfl
    · have : k = n := by omega
      subst this
      rw [h, Bool.or_true]
set_option maxHeartbeats 8000000 in
theorem s0_isTooLong (h : AH) (S : TS B Q h F) {o f : Nat} (O : AnO B h o f) : CT la D cA B0 pa yX0_isTooLong cX0_isTooLong 5 (some .boolean) (rmD 1 0 0) [.ref o] h (RP (.int (bI (tlA F f 8))) h) := by
  refine CT_of (by decide +kernel) (Nat.le_of_ble_eq_true rfl) ?_
  intro p e s m args below meth c X E hr hlk hnm
  have dk : ∀ {pc : Nat} {q : Instr × Nat}, lkd DX0_isTooLong pc = some q → decode cX0_isTooLong pc = .ok q := lkd_ok DX0_isTooLong_ok
  obtain ⟨of, arr, o1, o2⟩ := id O
  have loop : ∀ (d k : Nat), d = 8 - k → k ≤ 8 → tlA F f k = false → ∀ l : List (Nat × Value), lsel l [3, 2, 1] = [(3, vI k), (2, vI 8), (1, .ref arr)] → WR p la e (rmD 1 0 0) s m args below meth c D cA B0 5 (RP (.int (bI (tlA F f 8))) h) 10 l [] h 0 0 := by
    intro d
    induction d with
    | zero =>
      intro k hd hk e l hl
      have hk2 : k = 8 := by omega
      subst hk2
      rw [e]
      refine WS.sel [3, 2, 1] hl ?_
      iterate 2 refine fst1_ok X (dk rfl) rfl ?_
      refine br_ok X (dk rfl) rfl (show ((12 : Nat) : Int) + 24 = ((36 : Nat) : Int) from rfl) (fun _ => ?_) (fun q => absurd (Int32.le_refl _) q)
      refine fst1_ok X (dk rfl) rfl ?_
      exact reti_ok X hr hlk (bI_n false) (dk rfl) ⟨rfl, rfl⟩ (Nat.le_of_ble_eq_true rfl) (Nat.le_of_ble_eq_true rfl)
    | succ d ih =>
      intro k hd hk e l hl
      refine WS.sel [3, 2, 1] hl ?_
      iterate 2 refine fst1_ok X (dk rfl) rfl ?_
      refine br_ok X (dk rfl) rfl (show ((12 : Nat) : Int) + 24 = ((36 : Nat) : Int) from rfl) (fun q => absurd q (nI_ge (a := k) (b := 8) (by omega) (by omega))) (fun _ => ?_)
      iterate 2 refine fst1_ok X (dk rfl) rfl ?_
      refine aldr_ok X (Or.inl rfl) (dk rfl) o2 (by omega) (rgB_get B f (k := k) (by omega)) ?_
      iterate 2 refine fst1_ok X (dk rfl) rfl ?_
      refine callVR_ok (ci := 7) (T := TX5) (N := 3) (av := []) (r := []) X E (s5_isTooLong h S (i := f + k) (by omega)) lkX5_isTooLong mlX0_70 lmX5_isTooLong lpX5_isTooLong ⟨Nat.le_of_ble_eq_true rfl, Nat.le_of_ble_eq_true rfl⟩ ⟨Nat.le_of_ble_eq_true rfl, Nat.le_of_ble_eq_true rfl⟩ rfl ⟨_, (S (f + k) (by omega)).2.1⟩ (Nat.le_of_ble_eq_true rfl) (dk rfl) ?_
      rintro _ rfl
      cases hb : (F (f + k)).2 with
      | true =>
        rw [tlA_le F f hb 8 (by omega)]
        refine br_ok X (dk rfl) rfl (show ((25 : Nat) : Int) + 5 = ((30 : Nat) : Int) from rfl) (fun q => absurd q bI_t) (fun _ => ?_)
        refine fst1_ok X (dk rfl) rfl ?_
        exact reti_ok X hr hlk (bI_n true) (dk rfl) ⟨rfl, rfl⟩ (Nat.le_of_ble_eq_true rfl) (Nat.le_of_ble_eq_true rfl)
      | false =>
        refine br_ok X (dk rfl) rfl (show ((25 : Nat) : Int) + 5 = ((30 : Nat) : Int) from rfl) (fun _ => ?_) (fun q => absurd bI_f' q)
        refine fst1_ok X (dk rfl) rfl ?_
        refine br_ok X (dk rfl) rfl (show ((33 : Nat) : Int) + (-23) = ((10 : Nat) : Int) from rfl) (fun _ => ?_) (fun q => absurd trivial q)
        have f2 : Value.int (nI k + Int32.ofInt 1) = vI (k + 1) := congrArg Value.int (by rw [nI_1', nI_add])
        refine WS.sel (l' := [(3, vI (k + 1)), (2, vI 8), (1, .ref arr)]) [3, 2, 1] (by rw [← f2]; rfl) ?_
        exact ih (k + 1) (by omega) (by omega) (by unfold tlA; rw [e, hb]; rfl) _ rfl
  refine fst1_ok X (dk rfl) rfl ?_
  refine getf_ok X flX0_11 (dk rfl) o1 rfl ?_
  iterate 2 refine fst1_ok X (dk rfl) rfl ?_
  refine alen_ok X (by decide) (dk rfl) o2 ?_
  rw [show ((rgB B f 8).map Value.ref).length = 8 by simp [rgB]]
  iterate 3 refine fst1_ok X (dk rfl) rfl ?_
  exact loop 8 0 rfl (Nat.zero_le _) rfl _ rfl
set_option maxHeartbeats 8000000 in
theorem s0_moveNone (h : AH) (Y : LYO B Q) (S : TS B Q h F) {o f : Nat} (O : AnO B h o f) : CT la D cA B0 pa yX0_moveNone cX0_moveNone 2 none (rmD 2 0 0) [.ref o] h (TP B Q (upK F f (fun n => ([nI n], false)) 8) h) := by
  refine CT_of (by decide +kernel) (Nat.le_of_ble_eq_true rfl) ?_
  intro p e s m args below meth c X E hr hlk hnm
  have dk : ∀ {pc : Nat} {q : Instr × Nat}, lkd DX0_moveNone pc = some q → decode cX0_moveNone pc = .ok q := lkd_ok DX0_moveNone_ok
  obtain ⟨of, arr, o1, o2⟩ := id O
  have loop : ∀ (d k : Nat) (h1 : AH), d = 8 - k → k ≤ 8 → TS B Q h1 (upK F f (fun n => ([nI n], false)) k) → FrT B Q h h1 → ∀ l : List (Nat × Value), lsel l [1, 0] = [(1, vI k), (0, .ref o)] → WR p la e (rmD 2 0 0) s m args below meth c D cA B0 2 (TP B Q (upK F f (fun n => ([nI n], false)) 8) h) 2 l [] h1 0 0 := by
    intro d
    induction d with
    | zero =>
      intro k h1 hd hk S1 f1 l hl
      have hk2 : k = 8 := by omega
      subst hk2
      refine WS.sel [1, 0] hl ?_
      iterate 2 refine fst1_ok X (dk rfl) rfl ?_
      refine br_ok X (dk rfl) rfl (show ((5 : Nat) : Int) + 19 = ((24 : Nat) : Int) from rfl) (fun _ => ?_) (fun q => absurd (by rw [nI_8']; exact Int32.le_refl _) q)
      exact retv_ok X hr hlk (dk rfl) ⟨rfl, S1, f1⟩ (Nat.le_of_ble_eq_true rfl) (Nat.le_of_ble_eq_true rfl)
    | succ d ih =>
      intro k h1 hd hk S1 f1 l hl
      have p1 := f1.keep S o1 (by decide) (by decide)
      have p2 := f1.keep S o2 (by decide) (by decide)
      refine WS.sel [1, 0] hl ?_
      iterate 2 refine fst1_ok X (dk rfl) rfl ?_
      refine br_ok X (dk rfl) rfl (show ((5 : Nat) : Int) + 19 = ((24 : Nat) : Int) from rfl) (fun q => absurd q (by rw [nI_8']; exact nI_ge (by omega) (by omega))) (fun _ => ?_)
      refine fst1_ok X (dk rfl) rfl ?_
      refine getf_ok X flX0_11 (dk rfl) p1 rfl ?_
      refine fst1_ok X (dk rfl) rfl ?_
      refine aldr_ok X (Or.inl rfl) (dk rfl) p2 (by omega) (rgB_get B f (k := k) (by omega)) ?_
      refine fst1_ok X (dk rfl) rfl ?_
      refine callVT_ok (ci := 7) (T := TX5) (N := 3) (av := [vI k]) (r := []) X E (s5_becomeName h1 Y S1 (i := f + k) (by omega) (nI k)) lkX5_becomeName mlX0_20 lmX5_becomeName lpX5_becomeName ⟨Nat.le_of_ble_eq_true rfl, Nat.le_of_ble_eq_true rfl⟩ ⟨Nat.le_of_ble_eq_true rfl, Nat.le_of_ble_eq_true rfl⟩ rfl (S1 (f + k) (by omega)).2.1 (Nat.le_of_ble_eq_true rfl) (dk rfl) (fun h2 S2 f2 => ?_)
      rw [show (([nI k], false) : TC) = (fun n => ([nI n], false)) k from rfl, upK_up] at S2
      refine fst1_ok X (dk rfl) rfl ?_
      refine br_ok X (dk rfl) rfl (show ((21 : Nat) : Int) + (-19) = ((2 : Nat) : Int) from rfl) (fun _ => ?_) (fun q => absurd trivial q)
      have f3 : Value.int (nI k + Int32.ofInt 1) = vI (k + 1) := congrArg Value.int (by rw [nI_1', nI_add])
      refine WS.sel (l' := [(1, vI (k + 1)), (0, .ref o)]) [1, 0] (by rw [← f3]; rfl) ?_
      exact ih (k + 1) h2 (by omega) (by omega) S2 (f1.trans f2) _ rfl
  iterate 2 refine fst1_ok X (dk rfl) rfl ?_
  exact loop 8 0 h rfl (Nat.zero_le _) (by rw [upK_0]; exact S) (FrT.rf h) _ rfl
set_option maxHeartbeats 8000000 in
theorem s0_becomeAs (h : AH) (Y : LYO B Q) (S : TS B Q h F) {o f : Nat} (O : AnO B h o f) {o3 g : Nat} (O2 : AnO B h o3 g) (hd0 : f = g ∨ f + 8 ≤ g ∨ g + 8 ≤ f) (hl0 : ∀ n, n < 8 → (F (g + n)).1.length ≤ 16) : CT la D cA B0 pa yX0_becomeAs cX0_becomeAs 3 none (rmD 3 0 0) [.ref o, .ref o3] h (TP B Q (upK F f (fun n => F (g + n)) 8) h) := by
  refine CT_of (by decide +kernel) (Nat.le_of_ble_eq_true rfl) ?_
  intro p e s m args below meth c X E hr hlk hnm
  have dk : ∀ {pc : Nat} {q : Instr × Nat}, lkd DX0_becomeAs pc = some q → decode cX0_becomeAs pc = .ok q := lkd_ok DX0_becomeAs_ok
  obtain ⟨of, arr, o1, o2⟩ := id O
  obtain ⟨of2, arr2, o4, o5⟩ := id O2
  have loop : ∀ (d k : Nat) (h1 : AH), d = 8 - k → k ≤ 8 → TS B Q h1 (upK F f (fun n => F (g + n)) k) → FrT B Q h h1 → ∀ l : List (Nat × Value), lsel l [2, 1, 0] = [(2, vI k), (1, .ref o3), (0, .ref o)] → WR p la e (rmD 3 0 0) s m args below meth c D cA B0 3 (TP B Q (upK F f (fun n => F (g + n)) 8) h) 2 l [] h1 0 0 := by
    intro d
    induction d with
    | zero =>
      intro k h1 hd hk S1 f1 l hl
      have hk2 : k = 8 := by omega
      subst hk2
      refine WS.sel [2, 1, 0] hl ?_
      iterate 2 refine fst1_ok X (dk rfl) rfl ?_
      refine br_ok X (dk rfl) rfl (show ((5 : Nat) : Int) + 24 = ((29 : Nat) : Int) from rfl) (fun _ => ?_) (fun q => absurd (by rw [nI_8']; exact Int32.le_refl _) q)
      exact retv_ok X hr hlk (dk rfl) ⟨rfl, S1, f1⟩ (Nat.le_of_ble_eq_true rfl) (Nat.le_of_ble_eq_true rfl)
    | succ d ih =>
      intro k h1 hd hk S1 f1 l hl
      have p1 := f1.keep S o1 (by decide) (by decide)
      have p2 := f1.keep S o2 (by decide) (by decide)
      have p4 := f1.keep S o4 (by decide) (by decide)
      have p5 := f1.keep S o5 (by decide) (by decide)
      have eg : upK F f (fun n => F (g + n)) k (g + k) = F (g + k) := upK_out F f _ (by omega)
      have hrm := rmI_ge (f + k)
      have hlq := hl0 k (by omega)
      refine WS.sel [2, 1, 0] hl ?_
      iterate 2 refine fst1_ok X (dk rfl) rfl ?_
      refine br_ok X (dk rfl) rfl (show ((5 : Nat) : Int) + 24 = ((29 : Nat) : Int) from rfl) (fun q => absurd q (by rw [nI_8']; exact nI_ge (by omega) (by omega))) (fun _ => ?_)
      refine fst1_ok X (dk rfl) rfl ?_
      refine getf_ok X flX0_11 (dk rfl) p1 rfl ?_
      refine fst1_ok X (dk rfl) rfl ?_
      refine aldr_ok X (Or.inl rfl) (dk rfl) p2 (by omega) (rgB_get B f (k := k) (by omega)) ?_
      refine fst1_ok X (dk rfl) rfl ?_
      refine getf_ok X flX0_11 (dk rfl) p4 rfl ?_
      refine fst1_ok X (dk rfl) rfl ?_
      refine aldr_ok X (Or.inl rfl) (dk rfl) p5 (by omega) (rgB_get B g (k := k) (by omega)) ?_
      refine callVT_ok (ci := 7) (T := TX5) (N := 3) (av := [.ref (B (g + k))]) (r := []) X E (s5_becomeAs h1 Y S1 (i := f + k) (by omega) (j := g + k) (by omega) (by rw [eg]; omega)) lkX5_becomeAs mlX0_53 lmX5_becomeAs lpX5_becomeAs ⟨Nat.le_of_ble_eq_true rfl, Nat.le_of_ble_eq_true rfl⟩ ⟨Nat.le_of_ble_eq_true rfl, Nat.le_of_ble_eq_true rfl⟩ rfl (S1 (f + k) (by omega)).2.1 (Nat.le_of_ble_eq_true rfl) (dk rfl) (fun h2 S2 f2 => ?_)
      rw [eg, show F (g + k) = (fun n => F (g + n)) k from rfl, upK_up] at S2
      refine fst1_ok X (dk rfl) rfl ?_
      refine br_ok X (dk rfl) rfl (show ((26 : Nat) : Int) + (-24) = ((2 : Nat) : Int) from rfl) (fun _ => ?_) (fun q => absurd trivial q)
      have f3 : Value.int (nI k + Int32.ofInt 1) = vI (k + 1) := congrArg Value.int (by rw [nI_1', nI_add])
      refine WS.sel (l' := [(2, vI (k + 1)), (1, .ref o3), (0, .ref o)]) [2, 1, 0] (by rw [← f3]; rfl) ?_
      exact ih (k + 1) h2 (by omega) (by omega) S2 (f1.trans f2) _ rfl
  iterate 2 refine fst1_ok X (dk rfl) rfl ?_
  exact loop 8 0 h rfl (Nat.zero_le _) (by rw [upK_0]; exact S) (FrT.rf h) _ rfl
set_option maxHeartbeats 16000000 in
theorem s0_addUsed (h : AH) (Y : LYO B Q) (S : TS B Q h F) {o f : Nat} (O : AnO B h o f) {i1 : Nat} (h1i : i1 < 52) {ns : List Nat} (hN : TN (F i1) ns) {i2 : Nat} (h2i : i2 < 52) (h12 : i1 ≠ i2) (h2f : i2 < f ∨ f + 8 ≤ i2) {a b : Nat} (hab : a ≤ b) (hb : b ≤ ns.length) : CT la D cA B0 pa yX0_addUsed cX0_addUsed 7 none (rmD 2 0 0) [.ref o, .ref (B i1), vI a, vI b, .ref (B i2)] h (TP B Q (upF F i2 (auC (rmI i2) F f (F i2) ((ns.drop a).take (b - a)))) h) := by
  refine CT_of (by decide +kernel) (Nat.le_of_ble_eq_true rfl) ?_
  intro p e s m args below meth c X E hr hlk hnm
  have dk : ∀ {pc : Nat} {q : Instr × Nat}, lkd DX0_addUsed pc = some q → decode cX0_addUsed pc = .ok q := lkd_ok DX0_addUsed_ok
  obtain ⟨of, arr, o1, o2⟩ := id O
  have hL := rmI_le i1
  have hlen := (S i1 h1i).1
  rw [hN.len] at hlen
  have loop : ∀ (d k : Nat) (t : TC) (h1 : AH), d = b - k → k ≤ b → TS B Q h1 (upF F i2 t) → FrT B Q h h1 → auC (rmI i2) F f t ((ns.drop k).take (b - k)) = (auC (rmI i2) F f (F i2) ((ns.drop a).take (b - a))) → ∀ l : List (Nat × Value), lsel l [5, 4, 3, 1, 0] = [(5, vI k), (4, .ref (B i2)), (3, vI b), (1, .ref (B i1)), (0, .ref o)] → WR p la e (rmD 2 0 0) s m args below meth c D cA B0 7 (TP B Q (upF F i2 (auC (rmI i2) F f (F i2) ((ns.drop a).take (b - a)))) h) 3 l [] h1 0 0 := by
    intro d
    induction d with
    | zero =>
      intro k t h1 hd hk S1 f1 eU l hl
      have hk2 : k = b := by omega
      rw [hk2, Nat.sub_self, List.take_zero] at eU
      have e2 : t = (auC (rmI i2) F f (F i2) ((ns.drop a).take (b - a))) := eU
      rw [e2] at S1
      refine WS.sel [5, 4, 3, 1, 0] hl ?_
      iterate 2 refine fst1_ok X (dk rfl) rfl ?_
      refine br_ok X (dk rfl) rfl (show ((6 : Nat) : Int) + 47 = ((53 : Nat) : Int) from rfl) (fun _ => ?_) (fun q => absurd (by rw [hk2]; exact Int32.le_refl _) q)
      exact retv_ok X hr hlk (dk rfl) ⟨rfl, S1, f1⟩ (Nat.le_of_ble_eq_true rfl) (Nat.le_of_ble_eq_true rfl)
    | succ d ih =>
      intro k t h1 hd hk S1 f1 eU l hl
      have p1 := f1.keep S o1 (by decide) (by decide)
      have p2 := f1.keep S o2 (by decide) (by decide)
      obtain ⟨y, hy⟩ : ∃ y, ns[k]? = some y := ⟨_, List.getElem?_eq_getElem (by omega)⟩
      have hok := hN.2 y (List.mem_of_getElem? hy)
      have hyx := hok.lt
      rw [drop_cons hy, show b - k = (b - (k + 1)) + 1 by omega, List.take_succ_cons] at eU
      have hN1 : TN (upF F i2 t i1) ns := by rw [upF_ne _ _ h12]; exact hN
      refine WS.sel [5, 4, 3, 1, 0] hl ?_
      iterate 2 refine fst1_ok X (dk rfl) rfl ?_
      refine br_ok X (dk rfl) rfl (show ((6 : Nat) : Int) + 47 = ((53 : Nat) : Int) from rfl) (fun q => absurd q (nI_ge (by omega) (by omega))) (fun _ => ?_)
      iterate 2 refine fst1_ok X (dk rfl) rfl ?_
      refine callVR_ok (ci := 7) (T := TX5) (N := 3) (av := [vI k]) (r := []) X E (s5_letterAt h1 S1 h1i (nI k)) lkX5_letterAt mlX0_38 lmX5_letterAt lpX5_letterAt ⟨Nat.le_of_ble_eq_true rfl, Nat.le_of_ble_eq_true rfl⟩ ⟨Nat.le_of_ble_eq_true rfl, Nat.le_of_ble_eq_true rfl⟩ rfl ⟨_, (S1 i1 h1i).2.1⟩ (Nat.le_of_ble_eq_true rfl) (dk rfl) ?_
      rintro _ rfl
      rw [hN1.lt hy (by omega)]
      iterate 2 refine fst1_ok X (dk rfl) rfl ?_
      refine callNR_ok (av := [vI y]) (r := []) X E (s6_isName h1 (x := y) (by omega)) lkX6_isName mnX0_23 lsX6_isName ⟨Nat.le_of_ble_eq_true rfl, Nat.le_of_ble_eq_true rfl⟩ ⟨Nat.le_of_ble_eq_true rfl, Nat.le_of_ble_eq_true rfl⟩ (Nat.le_of_ble_eq_true rfl) (dk rfl) ?_
      rintro _ rfl
      have f3 : Value.int (nI k + Int32.ofInt 1) = vI (k + 1) := congrArg Value.int (by rw [nI_1', nI_add])
      have nxt : ∀ (h2 : AH), TS B Q h2 (upF F i2 (if y < 8 then addT (rmI i2) t (F (f + y)) else addC (rmI i2) t (nI y))) → FrT B Q h1 h2 → ∀ l : List (Nat × Value), lsel l [5, 4, 3, 1, 0] = [(5, vI k), (4, .ref (B i2)), (3, vI b), (1, .ref (B i1)), (0, .ref o)] → WR p la e (rmD 2 0 0) s m args below meth c D cA B0 7 (TP B Q (upF F i2 (auC (rmI i2) F f (F i2) ((ns.drop a).take (b - a)))) h) 47 l [] h2 0 0 := by
        intro h2 S2 f2 l hl
        refine WS.sel [5, 4, 3, 1, 0] hl ?_
        refine fst1_ok X (dk rfl) rfl ?_
        refine br_ok X (dk rfl) rfl (show ((50 : Nat) : Int) + (-47) = ((3 : Nat) : Int) from rfl) (fun _ => ?_) (fun q => absurd trivial q)
        refine WS.sel (l' := [(5, vI (k + 1)), (4, .ref (B i2)), (3, vI b), (1, .ref (B i1)), (0, .ref o)]) [5, 4, 3, 1, 0] (by rw [← f3]; rfl) ?_
        exact ih (k + 1) _ h2 (by omega) (by omega) S2 (f1.trans f2) eU _ rfl
      by_cases h8 : y < 8
      · rw [decide_eq_true h8]
        rw [if_pos h8] at nxt
        refine br_ok X (dk rfl) rfl (show ((22 : Nat) : Int) + 18 = ((40 : Nat) : Int) from rfl) (fun q => absurd q bI_t) (fun _ => ?_)
        iterate 2 refine fst1_ok X (dk rfl) rfl ?_
        refine getf_ok X flX0_11 (dk rfl) p1 rfl ?_
        refine fst1_ok X (dk rfl) rfl ?_
        refine aldr_ok X (Or.inl rfl) (dk rfl) p2 (by omega) (rgB_get B f (k := y) (by omega)) ?_
        refine callVT_ok (ci := 7) (T := TX5) (N := 3) (av := [.ref (B (f + y))]) (r := []) X E (s5_addTerm h1 Y S1 h2i (j := f + y) (by omega) (by omega)) lkX5_addTerm mlX0_64 lmX5_addTerm lpX5_addTerm ⟨Nat.le_of_ble_eq_true rfl, Nat.le_of_ble_eq_true rfl⟩ ⟨Nat.le_of_ble_eq_true rfl, Nat.le_of_ble_eq_true rfl⟩ rfl (S1 i2 h2i).2.1 (Nat.le_of_ble_eq_true rfl) (dk rfl) (fun h2 S2 f2 => ?_)
        rw [upF_self, upF_up, upF_ne _ _ (by omega)] at S2
        refine br_ok X (dk rfl) rfl (show ((37 : Nat) : Int) + 10 = ((47 : Nat) : Int) from rfl) (fun _ => ?_) (fun q => absurd trivial q)
        exact nxt h2 S2 f2 _ rfl
      · rw [decide_eq_false h8]
        rw [if_neg h8] at nxt
        refine br_ok X (dk rfl) rfl (show ((22 : Nat) : Int) + 18 = ((40 : Nat) : Int) from rfl) (fun _ => ?_) (fun q => absurd bI_f' q)
        iterate 2 refine fst1_ok X (dk rfl) rfl ?_
        refine callVT_ok (ci := 7) (T := TX5) (N := 3) (av := [vI y]) (r := []) X E (s5_add h1 Y S1 h2i (nI y)) lkX5_add mlX0_67 lmX5_add lpX5_add ⟨Nat.le_of_ble_eq_true rfl, Nat.le_of_ble_eq_true rfl⟩ ⟨Nat.le_of_ble_eq_true rfl, Nat.le_of_ble_eq_true rfl⟩ rfl (S1 i2 h2i).2.1 (Nat.le_of_ble_eq_true rfl) (dk rfl) (fun h2 S2 f2 => ?_)
        rw [upF_self, upF_up] at S2
        exact nxt h2 S2 f2 _ rfl
  iterate 2 refine fst1_ok X (dk rfl) rfl ?_
  exact loop _ a (F i2) h rfl hab (by rw [upF_same]; exact S) (FrT.rf h) rfl _ rfl
set_option maxHeartbeats 16000000 in
theorem s0_becomeBoth (h : AH) (Y : LYO B Q) (S : TS B Q h F) {o f : Nat} (O : AnO B h o f) {o3 g : Nat} (O2 : AnO B h o3 g) {o6 u : Nat} (O3 : AnO B h o6 u) (hfg : f + 8 ≤ g ∨ g + 8 ≤ f) (hfu : f + 8 ≤ u ∨ u + 8 ≤ f) (hrm : ∀ n, n < 8 → rmI (f + n) = 16) {rows : List (List Nat)} (H : RWX F g rows) : CT la D cA B0 pa yX0_becomeBoth cX0_becomeBoth 4 none (rmD 3 0 0) [.ref o, .ref o3, .ref o6] h (TP B Q (upK F f (fun n => auC 16 F u ([], false) (rows.getD n [])) 8) h) := by
  refine CT_of (by decide +kernel) (Nat.le_of_ble_eq_true rfl) ?_
  intro p e s m args below meth c X E hr hlk hnm
  have dk : ∀ {pc : Nat} {q : Instr × Nat}, lkd DX0_becomeBoth pc = some q → decode cX0_becomeBoth pc = .ok q := lkd_ok DX0_becomeBoth_ok
  obtain ⟨of, arr, o1, o2⟩ := id O
  obtain ⟨of2, arr2, o4, o5⟩ := id O2
  have loop : ∀ (d k : Nat) (h1 : AH), d = 8 - k → k ≤ 8 → TS B Q h1 (upK F f (fun n => auC 16 F u ([], false) (rows.getD n [])) k) → FrT B Q h h1 → ∀ l : List (Nat × Value), lsel l [3, 2, 1, 0] = [(3, vI k), (2, .ref o6), (1, .ref o3), (0, .ref o)] → WR p la e (rmD 3 0 0) s m args below meth c D cA B0 4 (TP B Q (upK F f (fun n => auC 16 F u ([], false) (rows.getD n [])) 8) h) 2 l [] h1 0 0 := by
    intro d
    induction d with
    | zero =>
      intro k h1 hd hk S1 f1 l hl
      have hk2 : k = 8 := by omega
      subst hk2
      refine WS.sel [3, 2, 1, 0] hl ?_
      iterate 2 refine fst1_ok X (dk rfl) rfl ?_
      refine br_ok X (dk rfl) rfl (show ((5 : Nat) : Int) + 44 = ((49 : Nat) : Int) from rfl) (fun _ => ?_) (fun q => absurd (by rw [nI_8']; exact Int32.le_refl _) q)
      exact retv_ok X hr hlk (dk rfl) ⟨rfl, S1, f1⟩ (Nat.le_of_ble_eq_true rfl) (Nat.le_of_ble_eq_true rfl)
    | succ d ih =>
      intro k h1 hd hk S1 f1 l hl
      have p1 := f1.keep S o1 (by decide) (by decide)
      have p2 := f1.keep S o2 (by decide) (by decide)
      have p4 := f1.keep S o4 (by decide) (by decide)
      have p5 := f1.keep S o5 (by decide) (by decide)
      obtain ⟨ns, n1, n2, n3, n4⟩ := H.tn (n := k) (by omega)
      refine WS.sel [3, 2, 1, 0] hl ?_
      iterate 2 refine fst1_ok X (dk rfl) rfl ?_
      refine br_ok X (dk rfl) rfl (show ((5 : Nat) : Int) + 44 = ((49 : Nat) : Int) from rfl) (fun q => absurd q (by rw [nI_8']; exact nI_ge (by omega) (by omega))) (fun _ => ?_)
      refine fst1_ok X (dk rfl) rfl ?_
      refine getf_ok X flX0_11 (dk rfl) p1 rfl ?_
      refine fst1_ok X (dk rfl) rfl ?_
      refine aldr_ok X (Or.inl rfl) (dk rfl) p2 (by omega) (rgB_get B f (k := k) (by omega)) ?_
      refine callVT_ok (ci := 7) (T := TX5) (N := 3) (av := []) (r := []) X E (s5_empty h1 Y S1 (i := f + k) (by omega)) lkX5_empty mlX0_57 lmX5_empty lpX5_empty ⟨Nat.le_of_ble_eq_true rfl, Nat.le_of_ble_eq_true rfl⟩ ⟨Nat.le_of_ble_eq_true rfl, Nat.le_of_ble_eq_true rfl⟩ rfl (S1 (f + k) (by omega)).2.1 (Nat.le_of_ble_eq_true rfl) (dk rfl) (fun h2 S2 f2 => ?_)
      have q1 := f2.keep S1 p1 (by decide) (by decide)
      have q2 := f2.keep S1 p2 (by decide) (by decide)
      have q4 := f2.keep S1 p4 (by decide) (by decide)
      have q5 := f2.keep S1 p5 (by decide) (by decide)
      have eF : ∀ j, (j < f ∨ f + 8 ≤ j) → upF (upK F f (fun n => auC 16 F u ([], false) (rows.getD n [])) k) (f + k) ([], false) j = F j := fun j hj => by rw [upF_ne _ _ (by omega), upK_out F f _ (by omega)]
      have n2b := n2
      rw [← eF (g + k) (by omega)] at n2b
      have O3b : AnO B h2 o6 u := (O3.keep S f1).keep S1 f2
      iterate 2 refine fst1_ok X (dk rfl) rfl ?_
      refine getf_ok X flX0_11 (dk rfl) q4 rfl ?_
      refine fst1_ok X (dk rfl) rfl ?_
      refine aldr_ok X (Or.inl rfl) (dk rfl) q5 (by omega) (rgB_get B g (k := k) (by omega)) ?_
      iterate 2 refine fst1_ok X (dk rfl) rfl ?_
      refine getf_ok X flX0_11 (dk rfl) q4 rfl ?_
      refine fst1_ok X (dk rfl) rfl ?_
      refine aldr_ok X (Or.inl rfl) (dk rfl) q5 (by omega) (rgB_get B g (k := k) (by omega)) ?_
      refine callVR_ok (ci := 7) (T := TX5) (N := 3) (av := []) (r := [vI 0, .ref (B (g + k)), .ref o6]) X E (s5_length h2 S2 (i := g + k) (by omega)) lkX5_length mlX0_34 lmX5_length lpX5_length ⟨Nat.le_of_ble_eq_true rfl, Nat.le_of_ble_eq_true rfl⟩ ⟨Nat.le_of_ble_eq_true rfl, Nat.le_of_ble_eq_true rfl⟩ rfl ⟨_, (S2 (g + k) (by omega)).2.1⟩ (Nat.le_of_ble_eq_true rfl) (dk rfl) ?_
      rintro _ rfl
      rw [n2b.len]
      refine fst1_ok X (dk rfl) rfl ?_
      refine getf_ok X flX0_11 (dk rfl) q1 rfl ?_
      refine fst1_ok X (dk rfl) rfl ?_
      refine aldr_ok X (Or.inl rfl) (dk rfl) q2 (by omega) (rgB_get B f (k := k) (by omega)) ?_
      refine callVT_ok (ci := 2) (T := TX0) (N := 1) (av := [.ref (B (g + k)), vI 0, vI ns.length, .ref (B (f + k))]) (r := []) X E (s0_addUsed h2 Y S2 O3b (i1 := g + k) (by omega) n2b (i2 := f + k) (by omega) (by omega) (by omega) (Nat.zero_le _) (Nat.le_refl _)) lkX0_addUsed mlX0_60 lmX0_addUsed lpX0_addUsed ⟨Nat.le_of_ble_eq_true rfl, Nat.le_of_ble_eq_true rfl⟩ ⟨Nat.le_of_ble_eq_true rfl, Nat.le_of_ble_eq_true rfl⟩ rfl O3b.2.choose_spec.1 (Nat.le_of_ble_eq_true rfl) (dk rfl) (fun h3 S3 f3 => ?_)
      rw [upF_up, upF_self, List.drop_zero, Nat.sub_zero, List.take_length, hrm k (by omega)] at S3
      have eA : auC 16 (upF (upK F f (fun n => auC 16 F u ([], false) (rows.getD n [])) k) (f + k) ([], false)) u ([], false) ns = (fun n => auC 16 F u ([], false) (rows.getD n [])) k := by
        have er : rows.getD k [] = ns := by rw [List.getD_eq_getElem?_getD, n1]; rfl
        show _ = auC 16 F u ([], false) (rows.getD k [])
        rw [er]
        unfold auC
        have hst : ∀ (xs : List Nat) (t : TC), xs.foldl (fun t x => if x < 8 then addT 16 t (upF (upK F f (fun n => auC 16 F u ([], false) (rows.getD n [])) k) (f + k) ([], false) (u + x)) else addC 16 t (nI x)) t = xs.foldl (fun t x => if x < 8 then addT 16 t (F (u + x)) else addC 16 t (nI x)) t := by
          intro xs
          induction xs with
          | nil => intro t; rfl
          | cons y r ihx =>
            intro t
            rw [List.foldl_cons, List.foldl_cons, ihx]
            congr 1
            by_cases hy : y < 8
            · rw [if_pos hy, if_pos hy, eF (u + y) (by omega)]
            · rw [if_neg hy, if_neg hy]
        exact hst ns _
      rw [eA, upK_up] at S3
      refine fst1_ok X (dk rfl) rfl ?_
      refine br_ok X (dk rfl) rfl (show ((46 : Nat) : Int) + (-44) = ((2 : Nat) : Int) from rfl) (fun _ => ?_) (fun q => absurd trivial q)
      have f4 : Value.int (nI k + Int32.ofInt 1) = vI (k + 1) := congrArg Value.int (by rw [nI_1', nI_add])
      refine WS.sel (l' := [(3, vI (k + 1)), (2, .ref o6), (1, .ref o3), (0, .ref o)]) [3, 2, 1, 0] (by rw [← f4]; rfl) ?_
      exact ih (k + 1) h3 (by omega) (by omega) S3 ((f1.trans f2).trans f3) _ rfl
  iterate 2 refine fst1_ok X (dk rfl) rfl ?_
  exact loop 8 0 h rfl (Nat.zero_le _) (by rw [upK_0]; exact S) (FrT.rf h) _ rfl
end S06
end Uc06ans
section Uc07obj
/-! the class, strongly: its object, what the acts have in common (printed by wip/p20/genS6.py) -/
/-- the slots, the answers, the acts done and refused -/
abbrev ST : Type := List (List Nat) × List (List (List Nat)) × Int32 × Int32
def StO (st : ST) : Prop := st.1.length = 6 ∧ (∀ r ∈ st.1, TW r ∧ r.length ≤ 16) ∧ st.2.1.length = 3 ∧ ∀ rows ∈ st.2.1, AO rows
def FS (F : Nat → TC) (st : ST) : Prop := (∀ j, j < 6 → ∃ ns, st.1[j]? = some ns ∧ F j = (ns.map nI, false)) ∧ ∀ k, k < 3 → ∃ rows, st.2.1[k]? = some rows ∧ RWX F (6 + 8 * k) rows
/-- how long the rows of the class's own are -/
def rlI (j : Nat) : Nat := if j = 60 ∨ j = 63 then 8 else if j < 64 then 32 else 128
def ROWS (Q : Nat → Nat) (h : AH) : Prop := ∀ j, 60 ≤ j → j < 70 → ∃ xs : List Int32, h (Q j) = some (107, xs.map Value.int) ∧ xs.length = rlI j
/-- what is written to in between: the pairs, the steps, the classes -/
def SCR (B Q P : Nat → Nat) (h : AH) : Prop := (∃ t e : Int32, h (P 4) = some (6, [.ref (B 50), .ref (Q 60), .ref (P 13), .int t, .int e])) ∧ h (P 5) = some (3, [.ref (B 51), .ref (Q 61), .ref (Q 62), .ref (Q 63), .ref (P 14)]) ∧ h (P 6) = some (5, [.ref (P 15)]) ∧
  (∀ k, k < 3 → ∃ w : Nat, w ≤ 128 ∧ h (P (13 + k)) = some (4, [.ref (Q (64 + 2 * k)), .ref (Q (65 + 2 * k)), vI w])) ∧ ROWS Q h
def OXc (B P : Nat → Nat) (d r kn : Int32) : AC := (8, [.ref (P 0), .ref (P 1), .int d, .int r, .int kn, .ref (B 30), .ref (B 31), .ref (B 32), .ref (B 33), .ref (P 2), .ref (P 3), .ref (P 4), .ref (P 5), .ref (P 6)])
/-- what never changes -/
def CON (B P : Nat → Nat) (h : AH) : Prop := h (P 0) = some (103, (rgB B 0 6).map Value.ref) ∧ h (P 1) = some (104, (rgB P 7 3).map Value.ref) ∧ (∀ k, k < 3 → AnO B h (P (7 + k)) (6 + 8 * k)) ∧ AnO B h (P 2) 34 ∧ AnO B h (P 3) 42
def CLS (B Q P : Nat → Nat) (ox : Nat) (kn : Int32) (h : AH) (F : Nat → TC) (d r : Int32) : Prop := TS B Q h F ∧ h ox = some (OXc B P d r kn) ∧ CON B P h ∧ SCR B Q P h
/-- cells of other kinds than the class's own stay -/
def FrC (h h' : AH) : Prop := ∀ (a : Nat) (c : AC), h a = some c → ck c.1 = false → h' a = some c
theorem FrC.rf (h : AH) : FrC h h := fun _ _ e _ => e
theorem FrC.trans {h1 h2 h3 : AH} (x : FrC h1 h2) (y : FrC h2 h3) : FrC h1 h3 := fun a c e k => y a c (x a c e k) k
theorem FrC.put {h : AH} {a : Nat} {c0 : AC} (e0 : h a = some c0) (k0 : ck c0.1 = true) (c : AC) : FrC h (hup h a c) := fun b d e k => by
  by_cases z : b = a
  · rw [z, e0] at e
    cases e
    rw [k0] at k
    cases k
  · rw [hup_ne _ _ z]
    exact e
theorem ck_78 {c : AC} (h : ck c.1 = false) : c.1 ≠ 7 ∧ c.1 ≠ 107 := ⟨(fun z => by rw [z] at h; cases h), (fun z => by rw [z] at h; cases h)⟩
section CLs
variable {B Q P : Nat → Nat} {ox : Nat} {kn : Int32} {h h' : AH} {F F' : Nat → TC} {d r : Int32}
theorem FrT.frC (S : TS B Q h F) (x : FrT B Q h h') : FrC h h' := fun a c e k => by
  obtain ⟨k1, vs⟩ := c
  exact x.keep S e (ck_78 k).1 (ck_78 k).2
theorem ROWS.keep (Y : LYO B Q) (S : TS B Q h F) (x : FrT B Q h h') (R : ROWS Q h) : ROWS Q h' := fun j h1 h2 => by
  obtain ⟨xs, e1, e2⟩ := R j h1 h2
  refine ⟨xs, ?_, e2⟩
  rw [x (Q j) (fun i hi => ⟨?_, fun z => by have := Y.2 _ _ (by omega) (by omega) z; omega⟩)]
  · exact e1
  · obtain ⟨-, b1, -⟩ := S i hi
    exact k_ne e1 b1 (by decide)
theorem SCR.keep (Y : LYO B Q) (S : TS B Q h F) (x : FrT B Q h h') (R : SCR B Q P h) : SCR B Q P h' := by
  obtain ⟨⟨t, e, r1⟩, r2, r3, r4, r5⟩ := R
  refine ⟨⟨t, e, x.keep S r1 (by decide) (by decide)⟩, x.keep S r2 (by decide) (by decide), x.keep S r3 (by decide) (by decide), fun k hk => ?_, r5.keep Y S x⟩
  obtain ⟨w, w1, w2⟩ := r4 k hk
  exact ⟨w, w1, x.keep S w2 (by decide) (by decide)⟩
theorem CON.keep (S : TS B Q h F) (x : FrT B Q h h') (H : CON B P h) : CON B P h' := by
  obtain ⟨c1, c2, c3, c4, c5⟩ := H
  exact ⟨x.keep S c1 (by decide) (by decide), x.keep S c2 (by decide) (by decide), fun k hk => (c3 k hk).keep S x, c4.keep S x, c5.keep S x⟩
/-- terms changed alone -/
theorem CLS.tm (Y : LYO B Q) (C : CLS B Q P ox kn h F d r) (S' : TS B Q h' F') (x : FrT B Q h h') : CLS B Q P ox kn h' F' d r :=
  ⟨S', x.keep C.1 C.2.1 (by decide) (by decide), C.2.2.1.keep C.1 x, C.2.2.2.keep Y C.1 x⟩
/-- a cell that is none of these is written -/
theorem TS.out (S : TS B Q h F) {a : Nat} {k : Nat} {vs : List Value} (e : h a = some (k, vs)) (h7 : k ≠ 7) (h8 : k ≠ 107) (c : AC) : TS B Q (hup h a c) F := fun i hi => by
  obtain ⟨s1, s2, xs, s3, s4⟩ := S i hi
  exact ⟨s1, by rw [hup_ne _ _ (k_ne s2 e (Ne.symm h7))]; exact s2, xs, by rw [hup_ne _ _ (k_ne s3 e (Ne.symm h8))]; exact s3, s4⟩
theorem AnO.out {o f : Nat} (O : AnO B h o f) {a : Nat} {k : Nat} {vs : List Value} (e : h a = some (k, vs)) (h2 : k ≠ 2) (h3 : k ≠ 103) (c : AC) : AnO B (hup h a c) o f := by
  obtain ⟨o1, arr, o2, o3⟩ := O
  exact ⟨o1, arr, by rw [hup_ne _ _ (k_ne o2 e (Ne.symm h2))]; exact o2, by rw [hup_ne _ _ (k_ne o3 e (Ne.symm h3))]; exact o3⟩
theorem CLS.cnt (C : CLS B Q P ox kn h F d r) (d' r' : Int32) : CLS B Q P ox kn (hup h ox (OXc B P d' r' kn)) F d' r' ∧ FrC h (hup h ox (OXc B P d' r' kn)) := by
  obtain ⟨S, x, ⟨c1, c2, c3, c4, c5⟩, ⟨t, e, r1⟩, r2, r3, r4, r5⟩ := C
  have x' : h ox = some (8, (OXc B P d r kn).2) := x
  have kp : ∀ {b k : Nat} {vs : List Value}, h b = some (k, vs) → k ≠ 8 → hup h ox (OXc B P d' r' kn) b = some (k, vs) := fun {b k vs} eb hk => by rw [hup_ne _ _ (k_ne eb x' hk)]; exact eb
  refine ⟨⟨S.out x' (by decide) (by decide) _, hup_self _ _ _, ⟨kp c1 (by decide), kp c2 (by decide), fun k hk => (c3 k hk).out x' (by decide) (by decide) _, c4.out x' (by decide) (by decide) _, c5.out x' (by decide) (by decide) _⟩, ⟨t, e, kp r1 (by decide)⟩, kp r2 (by decide), kp r3 (by decide), fun k hk => ?_, fun j h1 h2 => ?_⟩, FrC.put x rfl _⟩
  · obtain ⟨w, w1, w2⟩ := r4 k hk
    exact ⟨w, w1, kp w2 (by decide)⟩
  · obtain ⟨xs, e1, e2⟩ := r5 j h1 h2
    exact ⟨xs, kp e1 (by decide), e2⟩
end CLs
def okI (N : Nat) (x : Int32) : Bool := decide (¬ x < 0) && decide (x.toNatClampNeg < N)
theorem okI_t {N j : Nat} (h : j < N) (hN : N ≤ 2 ^ 20) : okI N (nI j) = true := by
  unfold okI
  rw [nI_clamp (by omega), decide_eq_true (nI_pos (by omega)), decide_eq_true h]
  rfl
theorem okI_f {N : Nat} {x : Int32} (h : ¬ inN N x) : okI N x = false := by
  cases e : okI N x with
  | false => rfl
  | true =>
    unfold okI at e
    rw [Bool.and_eq_true, decide_eq_true_eq, decide_eq_true_eq] at e
    obtain ⟨j, hj, rfl⟩ := nI_of e.1
    rw [nI_clamp hj] at e
    exact absurd ⟨j, e.2, rfl⟩ h
theorem TygN (h : AH) : Tyg (fun _ => none) h := fun a φ g => by cases g
theorem upF_fs {F : Nat → TC} {st : ST} (H : FS F st) {i : Nat} (hi : 30 ≤ i) (c : TC) : FS (upF F i c) st := by
  refine ⟨fun j hj => ?_, fun k hk => ?_⟩
  · obtain ⟨ns, h1, h2⟩ := H.1 j hj
    exact ⟨ns, h1, by rw [upF_ne _ _ (by omega)]; exact h2⟩
  · obtain ⟨rows, h1, h2, h3⟩ := H.2 k hk
    exact ⟨rows, h1, h2, fun n hn => by
      obtain ⟨ns, g1, g2, g3⟩ := h3 n hn
      exact ⟨ns, g1, by rw [upF_ne _ _ (by omega)]; exact g2, g3⟩⟩
section S07
variable {la : Launch} {D : va_G} {cA : Nat → ClassId} {B0 pa : Nat} {B Q P : Nat → Nat} {ox : Nat} {kn : Int32} {F : Nat → TC} {d r : Int32}
set_option maxHeartbeats 4000000 in
theorem s6_termOf (h : AH) (hl : la.stackTraces = false) (C : CLS B Q P ox kn h F d r) (x : Int32) : CTX la D cA B0 pa yX6_termOf cX6_termOf 2 (some (.object "Branchmatch$Term")) (rmD 6 1 6) [.ref ox, .int x] h (fun v h' => (∃ j, j < 6 ∧ x = nI j ∧ v = some (.ref (B j))) ∧ h' = h) (fun E h' => E = ioobe ∧ ¬ inN 6 x ∧ h' = h) := by
  refine CTX_of (by decide +kernel) (Nat.le_of_ble_eq_true rfl) ?_
  intro p e s m args below meth c X E hr hlk hnm ht
  have dk : ∀ {pc : Nat} {q : Instr × Nat}, lkd DX6_termOf pc = some q → decode cX6_termOf pc = .ok q := lkd_ok DX6_termOf_ok
  refine fst1_ok X (dk rfl) rfl ?_
  refine br_ok X (dk rfl) rfl (show ((1 : Nat) : Int) + 9 = ((10 : Nat) : Int) from rfl) (fun c1 => ?_) (fun c1 => ?_)
  · exact throwW_ok X E hl ht hlk xwX6_310 (List.mem_of_getElem? (i := 4) rfl) (dk rfl) (dk rfl) (dk rfl) (dk rfl) (dk rfl) ⟨Nat.le_of_ble_eq_true rfl, Nat.le_of_ble_eq_true rfl⟩ ⟨Nat.le_of_ble_eq_true rfl, Nat.le_of_ble_eq_true rfl⟩ ⟨rfl, (fun z => inN_pos z (by decide) c1), rfl⟩
  · iterate 2 refine fst1_ok X (dk rfl) rfl ?_
    refine br_ok X (dk rfl) rfl (show ((7 : Nat) : Int) + 14 = ((21 : Nat) : Int) from rfl) (fun c2 => ?_) (fun c2 => ?_)
    · obtain ⟨j, hj, rfl⟩ := inN_of (N := 6) (by decide) c1 (Int32.not_le.mpr (by rw [show nI 6 = (Int8.ofInt 6).toInt32 by decide +kernel]; exact c2))
      refine fst1_ok X (dk rfl) rfl ?_
      refine getf_ok X flX6_11 (dk rfl) C.2.1 rfl ?_
      refine fst1_ok X (dk rfl) rfl ?_
      refine aldr_ok X (Or.inl rfl) (dk rfl) C.2.2.1.1 (by omega) (rgB_get B 0 (k := j) hj) ?_
      rw [Nat.zero_add]
      refine WRX.ret ?_
      exact reta_ok X hr hlk (Or.inl ⟨_, rfl⟩) (Or.inr ⟨_, rfl⟩) (dk rfl) (⟨⟨j, hj, rfl, rfl⟩, rfl⟩) (Nat.le_of_ble_eq_true rfl) (Nat.le_of_ble_eq_true rfl)
    · exact throwW_ok X E hl ht hlk xwX6_310 (List.mem_of_getElem? (i := 4) rfl) (dk rfl) (dk rfl) (dk rfl) (dk rfl) (dk rfl) ⟨Nat.le_of_ble_eq_true rfl, Nat.le_of_ble_eq_true rfl⟩ ⟨Nat.le_of_ble_eq_true rfl, Nat.le_of_ble_eq_true rfl⟩ ⟨rfl, (fun z => c2 (by rw [← show nI 6 = (Int8.ofInt 6).toInt32 by decide +kernel]; exact inN_lt z (by decide))), rfl⟩
set_option maxHeartbeats 4000000 in
theorem s6_answerOf (h : AH) (hl : la.stackTraces = false) (C : CLS B Q P ox kn h F d r) (x : Int32) : CTX la D cA B0 pa yX6_answerOf cX6_answerOf 2 (some (.object "Branchmatch$Answer")) (rmD 6 1 6) [.ref ox, .int x] h (fun v h' => (∃ j, j < 3 ∧ x = nI j ∧ v = some (.ref (P (7 + j)))) ∧ h' = h) (fun E h' => E = ioobe ∧ ¬ inN 3 x ∧ h' = h) := by
  refine CTX_of (by decide +kernel) (Nat.le_of_ble_eq_true rfl) ?_
  intro p e s m args below meth c X E hr hlk hnm ht
  have dk : ∀ {pc : Nat} {q : Instr × Nat}, lkd DX6_answerOf pc = some q → decode cX6_answerOf pc = .ok q := lkd_ok DX6_answerOf_ok
  refine fst1_ok X (dk rfl) rfl ?_
  refine br_ok X (dk rfl) rfl (show ((1 : Nat) : Int) + 8 = ((9 : Nat) : Int) from rfl) (fun c1 => ?_) (fun c1 => ?_)
  · exact throwW_ok X E hl ht hlk xwX6_310 (List.mem_of_getElem? (i := 5) rfl) (dk rfl) (dk rfl) (dk rfl) (dk rfl) (dk rfl) ⟨Nat.le_of_ble_eq_true rfl, Nat.le_of_ble_eq_true rfl⟩ ⟨Nat.le_of_ble_eq_true rfl, Nat.le_of_ble_eq_true rfl⟩ ⟨rfl, (fun z => inN_pos z (by decide) c1), rfl⟩
  · iterate 2 refine fst1_ok X (dk rfl) rfl ?_
    refine br_ok X (dk rfl) rfl (show ((6 : Nat) : Int) + 14 = ((20 : Nat) : Int) from rfl) (fun c2 => ?_) (fun c2 => ?_)
    · obtain ⟨j, hj, rfl⟩ := inN_of (N := 3) (by decide) c1 (Int32.not_le.mpr (by rw [show nI 3 = Int32.ofInt 3 by decide +kernel]; exact c2))
      refine fst1_ok X (dk rfl) rfl ?_
      refine getf_ok X flX6_17 (dk rfl) C.2.1 rfl ?_
      refine fst1_ok X (dk rfl) rfl ?_
      refine aldr_ok X (Or.inr rfl) (dk rfl) C.2.2.1.2.1 (by omega) (rgB_get P 7 (k := j) hj) ?_
      refine WRX.ret ?_
      exact reta_ok X hr hlk (Or.inl ⟨_, rfl⟩) (Or.inr ⟨_, rfl⟩) (dk rfl) (⟨⟨j, hj, rfl, rfl⟩, rfl⟩) (Nat.le_of_ble_eq_true rfl) (Nat.le_of_ble_eq_true rfl)
    · exact throwW_ok X E hl ht hlk xwX6_310 (List.mem_of_getElem? (i := 5) rfl) (dk rfl) (dk rfl) (dk rfl) (dk rfl) (dk rfl) ⟨Nat.le_of_ble_eq_true rfl, Nat.le_of_ble_eq_true rfl⟩ ⟨Nat.le_of_ble_eq_true rfl, Nat.le_of_ble_eq_true rfl⟩ ⟨rfl, (fun z => c2 (by rw [← show nI 3 = Int32.ofInt 3 by decide +kernel]; exact inN_lt z (by decide))), rfl⟩
set_option maxHeartbeats 4000000 in
theorem s6_needName (h : AH) (hl : la.stackTraces = false) (x : Int32) : CTX la D cA B0 pa yX6_needName cX6_needName 1 none (rmD 6 1 6) [.int x] h (fun v h' => (∃ j, j < 8 ∧ x = nI j ∧ v = none) ∧ h' = h) (fun E h' => E = iae ∧ ¬ inN 8 x ∧ h' = h) := by
  refine CTX_of (by decide +kernel) (Nat.le_of_ble_eq_true rfl) ?_
  intro p e s m args below meth c X E hr hlk hnm ht
  have dk : ∀ {pc : Nat} {q : Instr × Nat}, lkd DX6_needName pc = some q → decode cX6_needName pc = .ok q := lkd_ok DX6_needName_ok
  refine fst1_ok X (dk rfl) rfl ?_
  refine callSR_ok (av := [.int x]) (r := []) X E (c6_isName _ (TygN h) x) lkX6_isName mlX6_137 lsX6_isName ⟨Nat.le_of_ble_eq_true rfl, Nat.le_of_ble_eq_true rfl⟩ ⟨Nat.le_of_ble_eq_true rfl, Nat.le_of_ble_eq_true rfl⟩ (Nat.le_of_ble_eq_true rfl) (dk rfl) ?_
  rintro _ ⟨b1, rfl, hb2, hn3⟩
  refine br_ok X (dk rfl) rfl (show ((4 : Nat) : Int) + 14 = ((18 : Nat) : Int) from rfl) (fun c4 => ?_) (fun c4 => ?_)
  · obtain ⟨j, hj, rfl⟩ := hb2 (bI_nz c4)
    refine WRX.ret ?_
    exact retv_ok X hr hlk (dk rfl) ⟨⟨j, hj, rfl, rfl⟩, rfl⟩ (Nat.le_of_ble_eq_true rfl) (Nat.le_of_ble_eq_true rfl)
  · have c5 : b1 = false := by
      cases b1 with
      | false => rfl
      | true => exact absurd bI_t c4
    exact throwW_ok X E hl ht hlk xwX6_88 (List.mem_of_getElem? (i := 6) rfl) (dk rfl) (dk rfl) (dk rfl) (dk rfl) (dk rfl) ⟨Nat.le_of_ble_eq_true rfl, Nat.le_of_ble_eq_true rfl⟩ ⟨Nat.le_of_ble_eq_true rfl, Nat.le_of_ble_eq_true rfl⟩ ⟨rfl, (hn3 c5), rfl⟩
set_option maxHeartbeats 4000000 in
theorem s6_did (h : AH) (C : CLS B Q P ox kn h F d r) (x : Int32) : CT la D cA B0 pa yX6_did cX6_did 2 (some .int) (rmD 0 0 0) [.ref ox, .int x] h (fun v h' => v = some (.int x) ∧ CLS B Q P ox kn h' F (d + Int32.ofInt 1) (r) ∧ FrC h h') := by
  refine CT_of (by decide +kernel) (Nat.le_of_ble_eq_true rfl) ?_
  intro p e s m args below meth c X E hr hlk hnm
  have dk : ∀ {pc : Nat} {q : Instr × Nat}, lkd DX6_did pc = some q → decode cX6_did pc = .ok q := lkd_ok DX6_did_ok
  iterate 2 refine fst1_ok X (dk rfl) rfl ?_
  refine getf_ok X flX6_241 (dk rfl) C.2.1 rfl ?_
  iterate 2 refine fst1_ok X (dk rfl) rfl ?_
  refine putf_ok X flX6_241 ftX6_2 (Or.inl rfl) rfl rfl (dk rfl) C.2.1 (Nat.le_of_ble_eq_true rfl) ?_
  refine fst1_ok X (dk rfl) rfl ?_
  exact reti_ok X hr hlk rfl (dk rfl) ⟨rfl, C.cnt (d + Int32.ofInt 1) r⟩ (Nat.le_of_ble_eq_true rfl) (Nat.le_of_ble_eq_true rfl)
set_option maxHeartbeats 4000000 in
theorem s6_refuse (h : AH) (C : CLS B Q P ox kn h F d r) : CT la D cA B0 pa yX6_refuse cX6_refuse 1 (some .int) (rmD 0 0 0) [.ref ox] h (fun v h' => v = some (.int (Int8.ofInt (-9)).toInt32) ∧ CLS B Q P ox kn h' F (d) (r + Int32.ofInt 1) ∧ FrC h h') := by
  refine CT_of (by decide +kernel) (Nat.le_of_ble_eq_true rfl) ?_
  intro p e s m args below meth c X E hr hlk hnm
  have dk : ∀ {pc : Nat} {q : Instr × Nat}, lkd DX6_refuse pc = some q → decode cX6_refuse pc = .ok q := lkd_ok DX6_refuse_ok
  iterate 2 refine fst1_ok X (dk rfl) rfl ?_
  refine getf_ok X flX6_245 (dk rfl) C.2.1 rfl ?_
  iterate 2 refine fst1_ok X (dk rfl) rfl ?_
  refine putf_ok X flX6_245 ftX6_3 (Or.inl rfl) rfl rfl (dk rfl) C.2.1 (Nat.le_of_ble_eq_true rfl) ?_
  refine fst1_ok X (dk rfl) rfl ?_
  exact reti_ok X hr hlk rfl (dk rfl) ⟨rfl, C.cnt d (r + Int32.ofInt 1)⟩ (Nat.le_of_ble_eq_true rfl) (Nat.le_of_ble_eq_true rfl)
/-- a term that is given to a slot -/
def gvP (B Q P : Nat → Nat) (ox : Nat) (kn : Int32) (h : AH) (F : Nat → TC) (d r : Int32) (j : Nat) (zs : List Nat) (v : Option Value) (h' : AH) : Prop :=
  FrC h h' ∧ ((16 < zs.length ∧ v = some (.int (Int8.ofInt (-9)).toInt32) ∧ CLS B Q P ox kn h' F d (r + Int32.ofInt 1)) ∨ (zs.length ≤ 16 ∧ v = some (vI zs.length) ∧ CLS B Q P ox kn h' (upF F j (zs.map nI, false)) (d + Int32.ofInt 1) r))
set_option maxHeartbeats 8000000 in
theorem s6_putSpareInto (h : AH) (Y : LYO B Q) (C : CLS B Q P ox kn h F d r) {j : Nat} (hj : j < 6) {zs : List Nat} (hz : F 30 = addR 16 ([], false) (zs.map nI)) : CT la D cA B0 pa yX6_putSpareInto cX6_putSpareInto 2 (some .int) (rmD 3 0 0) [.ref ox, .ref (B j)] h (gvP B Q P ox kn h F d r j zs) := by
  refine CT_of (by decide +kernel) (Nat.le_of_ble_eq_true rfl) ?_
  intro p e s m args below meth c X E hr hlk hnm
  have dk : ∀ {pc : Nat} {q : Instr × Nat}, lkd DX6_putSpareInto pc = some q → decode cX6_putSpareInto pc = .ok q := lkd_ok DX6_putSpareInto_ok
  refine fst1_ok X (dk rfl) rfl ?_
  refine getf_ok X flX6_24 (dk rfl) C.2.1 rfl ?_
  refine callVR_ok (ci := 7) (T := TX5) (N := 3) (av := []) (r := []) X E (s5_isTooLong h C.1 (i := 30) (by omega)) lkX5_isTooLong mlX6_315 lmX5_isTooLong lpX5_isTooLong ⟨Nat.le_of_ble_eq_true rfl, Nat.le_of_ble_eq_true rfl⟩ ⟨Nat.le_of_ble_eq_true rfl, Nat.le_of_ble_eq_true rfl⟩ rfl ⟨_, (C.1 30 (by omega)).2.1⟩ (Nat.le_of_ble_eq_true rfl) (dk rfl) ?_
  rintro _ rfl
  have e0 : F 30 = ((zs.map nI).take 16, decide (16 < zs.length)) := by
    rw [hz, addR_eq _ _ _ (Nat.zero_le _)]
    show (([] ++ zs.map nI).take 16, (false || decide (16 < 0 + (zs.map nI).length))) = _
    rw [List.nil_append, List.length_map, Nat.zero_add, Bool.false_or]
  rw [e0]
  by_cases hlong : 16 < zs.length
  · rw [show bI ((zs.map nI).take 16, decide (16 < zs.length)).2 = bI true by rw [decide_eq_true hlong]]
    refine br_ok X (dk rfl) rfl (show ((7 : Nat) : Int) + 8 = ((15 : Nat) : Int) from rfl) (fun q => absurd q bI_t) (fun _ => ?_)
    refine fst1_ok X (dk rfl) rfl ?_
    refine callV_ok (ci := 8) (T := TX6) (N := 14) (av := []) (r := []) X E (s6_refuse h C) lkX6_refuse mlX6_119 lmX6_refuse lpX6_refuse ⟨Nat.le_of_ble_eq_true rfl, Nat.le_of_ble_eq_true rfl⟩ ⟨Nat.le_of_ble_eq_true rfl, Nat.le_of_ble_eq_true rfl⟩ rfl C.2.1 (Nat.le_of_ble_eq_true rfl) (dk rfl) ?_
    rintro _ h1 ⟨rfl, C1, f1⟩
    exact reti_ok X hr hlk rfl (dk rfl) ⟨f1, Or.inl ⟨hlong, rfl, C1⟩⟩ (Nat.le_of_ble_eq_true rfl) (Nat.le_of_ble_eq_true rfl)
  · rw [show bI ((zs.map nI).take 16, decide (16 < zs.length)).2 = bI false by rw [decide_eq_false hlong]]
    refine br_ok X (dk rfl) rfl (show ((7 : Nat) : Int) + 8 = ((15 : Nat) : Int) from rfl) (fun _ => ?_) (fun q => absurd bI_f' q)
    have e1 : F 30 = (zs.map nI, false) := by rw [e0, List.take_of_length_le (by rw [List.length_map]; omega), decide_eq_false hlong]
    iterate 2 refine fst1_ok X (dk rfl) rfl ?_
    refine getf_ok X flX6_24 (dk rfl) C.2.1 rfl ?_
    have hrm : rmI j = 16 := if_pos (by omega)
    refine callVT_ok (ci := 7) (T := TX5) (N := 3) (av := [.ref (B 30)]) (r := []) X E (s5_becomeAs h Y C.1 (i := j) (by omega) (j := 30) (by omega) (by rw [e1, hrm, List.length_map]; omega)) lkX5_becomeAs mlX6_108 lmX5_becomeAs lpX5_becomeAs ⟨Nat.le_of_ble_eq_true rfl, Nat.le_of_ble_eq_true rfl⟩ ⟨Nat.le_of_ble_eq_true rfl, Nat.le_of_ble_eq_true rfl⟩ rfl (C.1 j (by omega)).2.1 (Nat.le_of_ble_eq_true rfl) (dk rfl) (fun h1 S1 f1 => ?_)
    rw [e1] at S1
    have C1 := C.tm Y S1 f1
    iterate 2 refine fst1_ok X (dk rfl) rfl ?_
    refine callVR_ok (ci := 7) (T := TX5) (N := 3) (av := []) (r := [.ref ox]) X E (s5_length h1 S1 (i := j) (by omega)) lkX5_length mlX6_76 lmX5_length lpX5_length ⟨Nat.le_of_ble_eq_true rfl, Nat.le_of_ble_eq_true rfl⟩ ⟨Nat.le_of_ble_eq_true rfl, Nat.le_of_ble_eq_true rfl⟩ rfl ⟨_, (S1 j (by omega)).2.1⟩ (Nat.le_of_ble_eq_true rfl) (dk rfl) ?_
    rintro _ rfl
    rw [upF_self]
    refine callV_ok (ci := 8) (T := TX6) (N := 14) (av := [vI (zs.map nI).length]) (r := []) X E (s6_did h1 C1 _) lkX6_did mlX6_80 lmX6_did lpX6_did ⟨Nat.le_of_ble_eq_true rfl, Nat.le_of_ble_eq_true rfl⟩ ⟨Nat.le_of_ble_eq_true rfl, Nat.le_of_ble_eq_true rfl⟩ rfl C1.2.1 (Nat.le_of_ble_eq_true rfl) (dk rfl) ?_
    rintro _ h2 ⟨rfl, C2, f2⟩
    exact reti_ok X hr hlk rfl (dk rfl) ⟨(f1.frC C.1).trans f2, Or.inr ⟨by omega, by rw [List.length_map]; rfl, C2⟩⟩ (Nat.le_of_ble_eq_true rfl) (Nat.le_of_ble_eq_true rfl)
end S07
end Uc07obj
section Uc08acts1
/-! what the acts do; the class's acts, strongly (printed by wip/p20/genS7.py) -/
abbrev RS : Type := (Nat × Int32) × ST
def m9 : Int32 := (Int8.ofInt (-9)).toInt32
def noS (st : ST) : RS := ((0, m9), (st.1, st.2.1, st.2.2.1, st.2.2.2 + Int32.ofInt 1))
def slS (st : ST) (sl : List (List Nat)) (t : Int32) : RS := ((0, t), (sl, st.2.1, st.2.2.1 + Int32.ofInt 1, st.2.2.2))
def anS (st : ST) (an : List (List (List Nat))) (t : Int32) : RS := ((0, t), (st.1, an, st.2.2.1 + Int32.ofInt 1, st.2.2.2))
def giveS (j : Nat) (zs : List Nat) (t : Int32) (st : ST) : RS := if 16 < zs.length then noS st else slS st (st.1.set j zs) t
def becS (k : Nat) (rows : List (List Nat)) (st : ST) : RS := anS st (st.2.1.set k rows) (bcF (nI (movedN rows 8)))
def xI (x : Int32) : Nat := x.toNatClampNeg
def nm8 : List (List Nat) := (List.range 8).map (fun k => [k])
def aName (x1 x2 : Int32) (st : ST) : RS := if okI 6 x1 then (if okI 8 x2 then slS st (st.1.set (xI x1) [xI x2]) (nI (st.1.getD (xI x1) []).length) else ((2, 0), st)) else ((1, 0), st)
def aCopy (x1 x2 : Int32) (st : ST) : RS := if okI 6 x1 then (if okI 6 x2 then giveS (xI x2) (st.1.getD (xI x1) []) (nI (st.1.getD (xI x1) []).length) st else ((1, 0), st)) else ((1, 0), st)
def aSwap (x1 x2 : Int32) (st : ST) : RS := if okI 6 x1 then (if okI 6 x2 then slS st ((st.1.set (xI x1) (st.1.getD (xI x2) [])).set (xI x2) (st.1.getD (xI x1) [])) (if st.1.getD (xI x1) [] = st.1.getD (xI x2) [] then 0 else 1) else ((1, 0), st)) else ((1, 0), st)
def aPart (x1 x2 x3 : Int32) (st : ST) : RS := if okI 6 x1 then (if okI 6 x3 then (if okI (st.1.getD (xI x1) []).length x2 then giveS (xI x3) (sub' (st.1.getD (xI x1) []) (xI x2)) (nI (sub' (st.1.getD (xI x1) []) (xI x2)).length) st else noS st) else ((1, 0), st)) else ((1, 0), st)
def grL (a z : List Nat) (p : Nat) : List Nat := (a.take p ++ z) ++ a.drop (p + tl a p)
def aGraft (x1 x2 x3 : Int32) (st : ST) : RS := if okI 6 x1 then (if okI 6 x3 then (if okI (st.1.getD (xI x1) []).length x2 then giveS (xI x1) (grL (st.1.getD (xI x1) []) (st.1.getD (xI x3) []) (xI x2)) (nI (grL (st.1.getD (xI x1) []) (st.1.getD (xI x3) []) (xI x2)).length) st else noS st) else ((1, 0), st)) else ((1, 0), st)
def aUse (x1 x2 x3 : Int32) (st : ST) : RS := if okI 3 x1 then (if okI 6 x2 then (if okI 6 x3 then giveS (xI x3) (usedL (st.2.1.getD (xI x1) []) (st.1.getD (xI x2) [])) (nI (usedL (st.2.1.getD (xI x1) []) (st.1.getD (xI x2) [])).length) st else ((1, 0), st)) else ((1, 0), st)) else ((1, 0), st)
def StC (B Q P : Nat → Nat) (ox : Nat) (kn : Int32) (h : AH) (st : ST) : Prop := ∃ F, CLS B Q P ox kn h F st.2.2.1 st.2.2.2 ∧ FS F st ∧ StO st
def AP (B Q P : Nat → Nat) (ox : Nat) (kn : Int32) (res : RS) (h : AH) (v : Option Value) (h' : AH) : Prop := res.1.1 = 0 ∧ v = some (.int res.1.2) ∧ StC B Q P ox kn h' res.2 ∧ FrC h h'
def AX (res : RS) (st : ST) (h : AH) (E : String) (h' : AH) : Prop := ((res.1.1 = 1 ∧ E = ioobe) ∨ (res.1.1 = 2 ∧ E = iae)) ∧ res.2 = st ∧ h' = h
theorem AX.one {st : ST} {h h' : AH} {E : String} {res : RS} (hr : res = ((1, 0), st)) (z : E = ioobe ∧ h' = h) : AX res st h E h' := by
  subst hr
  exact ⟨Or.inl ⟨rfl, z.1⟩, rfl, z.2⟩
theorem AX.two {st : ST} {h h' : AH} {E : String} {res : RS} (hr : res = ((2, 0), st)) (z : E = iae ∧ h' = h) : AX res st h E h' := by
  subst hr
  exact ⟨Or.inr ⟨rfl, z.1⟩, rfl, z.2⟩
theorem xI_n {j : Nat} (h : j < 2 ^ 31) : xI (nI j) = j := nI_clamp h
theorem getD_of {α : Type} {xs : List α} {j : Nat} {x d : α} (h : xs[j]? = some x) : xs.getD j d = x := by rw [List.getD_eq_getElem?_getD, h]; rfl
theorem FS.slot {F : Nat → TC} {st : ST} (H : FS F st) (O : StO st) {j : Nat} (hj : j < 6) : ∃ ns, st.1[j]? = some ns ∧ F j = (ns.map nI, false) ∧ TN (F j) ns ∧ TW ns ∧ ns.length ≤ 16 := by
  obtain ⟨ns, h1, h2⟩ := H.1 j hj
  obtain ⟨h3, h4⟩ := O.2.1 ns (List.mem_of_getElem? h1)
  exact ⟨ns, h1, h2, ⟨by rw [h2], h3.2⟩, h3, h4⟩
theorem FS.set {F : Nat → TC} {st : ST} (H : FS F st) {j : Nat} (hj : j < 6) (hl : st.1.length = 6) (zs : List Nat) (d r : Int32) : FS (upF F j (zs.map nI, false)) (st.1.set j zs, st.2.1, d, r) := by
  refine ⟨fun i hi => ?_, fun k hk => ?_⟩
  · by_cases e : i = j
    · subst e
      exact ⟨zs, List.getElem?_set_self (by omega), upF_self _ _ _⟩
    · obtain ⟨ns, h1, h2⟩ := H.1 i hi
      exact ⟨ns, by show (st.1.set j zs)[i]? = _; rw [List.getElem?_set_ne (Ne.symm e)]; exact h1, by rw [upF_ne _ _ e]; exact h2⟩
  · obtain ⟨rows, h1, h2, h3⟩ := H.2 k hk
    exact ⟨rows, h1, h2, fun n hn => by
      obtain ⟨ns, g1, g2, g3⟩ := h3 n hn
      exact ⟨ns, g1, by rw [upF_ne _ _ (by omega)]; exact g2, g3⟩⟩
theorem StO.set {st : ST} (O : StO st) {zs : List Nat} (hz : TW zs ∧ zs.length ≤ 16) (j : Nat) (d r : Int32) : StO (st.1.set j zs, st.2.1, d, r) :=
  ⟨by show (st.1.set j zs).length = 6; rw [List.length_set]; exact O.1, fun x hx => (List.mem_or_eq_of_mem_set hx).elim (O.2.1 x) (fun e => by rw [e]; exact hz), O.2.2⟩
theorem FS.cnt {F : Nat → TC} {st : ST} (H : FS F st) (d r : Int32) : FS F (st.1, st.2.1, d, r) := H
theorem StO.cnt {st : ST} (O : StO st) (d r : Int32) : StO (st.1, st.2.1, d, r) := O
/-- what a slot was given -/
theorem gvP.ap {B Q P : Nat → Nat} {ox : Nat} {kn : Int32} {h0 h h' : AH} {F : Nat → TC} {st : ST} {j : Nat} {zs : List Nat} {v : Option Value} (G : gvP B Q P ox kn h F st.2.2.1 st.2.2.2 j zs v h') (f0 : FrC h0 h) (H : FS F st) (O : StO st) (hj : j < 6) (hz : TW zs) : AP B Q P ox kn (giveS j zs (nI zs.length) st) h0 v h' := by
  obtain ⟨f, ⟨h1, rfl, C⟩ | ⟨h1, rfl, C⟩⟩ := G
  · unfold giveS
    rw [if_pos h1]
    exact ⟨rfl, rfl, ⟨F, C, H.cnt _ _, O.cnt _ _⟩, f0.trans f⟩
  · unfold giveS
    rw [if_neg (by omega)]
    exact ⟨rfl, rfl, ⟨_, C, H.set hj O.1 zs _ _, O.set ⟨hz, h1⟩ j _ _⟩, f0.trans f⟩
theorem subTW {ns : List Nat} (h : TW ns) {p : Nat} (hp : p < ns.length) : endL 1 (ns.drop p) = some (tl ns p) ∧ 0 < tl ns p ∧ p + tl ns p ≤ ns.length ∧ TW (sub' ns p) := by
  obtain ⟨k, h1, h2, h3, h4⟩ := h.at hp
  have e : tl ns p = k := by unfold tl; rw [h1]; rfl
  unfold sub'
  rw [e]
  exact ⟨h1, h2, h3, h4⟩
section S08
variable {la : Launch} {D : va_G} {cA : Nat → ClassId} {B0 pa : Nat} {B Q P : Nat → Nat} {ox : Nat} {kn : Int32}
set_option maxHeartbeats 8000000 in
theorem s6_name (h : AH) (hl : la.stackTraces = false) (Y : LYO B Q) {st : ST} (C0 : StC B Q P ox kn h st) (x1 x2 : Int32) : CTX la D cA B0 pa yX6_name cX6_name 5 (some .int) (rmD 7 2 12) [.ref ox, .int x1, .int x2] h (AP B Q P ox kn (aName x1 x2 st) h) (AX (aName x1 x2 st) st h) := by
  refine CTX_of (by decide +kernel) (Nat.le_of_ble_eq_true rfl) ?_
  intro p e s m args below meth c X E hr hlk hnm ht
  have dk : ∀ {pc : Nat} {q : Instr × Nat}, lkd DX6_name pc = some q → decode cX6_name pc = .ok q := lkd_ok DX6_name_ok
  obtain ⟨F, C, H, O⟩ := id C0
  iterate 2 refine fst1_ok X (dk rfl) rfl ?_
  refine callVX_ok (ci := 8) (T := TX6) (N := 14) (av := [.int x1]) (r := []) X E ht hlk (s6_termOf h hl C x1) (fun E1 h1 z => AX.one (by unfold aName; rw [if_neg (by rw [okI_f z.2.1]; decide)]) ⟨z.1, z.2.2⟩) lkX6_termOf mlX6_69 lmX6_termOf lpX6_termOf ⟨Nat.le_of_ble_eq_true rfl, Nat.le_of_ble_eq_true rfl⟩ ⟨Nat.le_of_ble_eq_true rfl, Nat.le_of_ble_eq_true rfl⟩ rfl C.2.1 (Nat.le_of_ble_eq_true rfl) (dk rfl) ?_
  rintro _ h1 ⟨⟨j, hj, rfl, rfl⟩, eh⟩
  obtain rfl := eh.symm
  obtain ⟨nj, sj, ej, tj, wj, lj⟩ := H.slot O hj
  iterate 2 refine fst1_ok X (dk rfl) rfl ?_
  refine callSX_ok (av := [.int x2]) (r := []) X E ht hlk (s6_needName _ hl x2) (fun E1 h1 z => AX.two (by unfold aName; rw [if_pos (okI_t hj (by decide)), if_neg (by rw [okI_f z.2.1]; decide)]) ⟨z.1, z.2.2⟩) lkX6_needName mlX6_73 lsX6_needName ⟨Nat.le_of_ble_eq_true rfl, Nat.le_of_ble_eq_true rfl⟩ ⟨Nat.le_of_ble_eq_true rfl, Nat.le_of_ble_eq_true rfl⟩ (Nat.le_of_ble_eq_true rfl) (dk rfl) ?_
  rintro _ h1 ⟨⟨i, hi, rfl, rfl⟩, eh⟩
  obtain rfl := eh.symm
  refine fst1_ok X (dk rfl) rfl ?_
  refine callVR_ok (ci := 7) (T := TX5) (N := 3) (av := []) (r := []) X E (s5_length _ C.1 (i := j) (by omega)) lkX5_length mlX6_76 lmX5_length lpX5_length ⟨Nat.le_of_ble_eq_true rfl, Nat.le_of_ble_eq_true rfl⟩ ⟨Nat.le_of_ble_eq_true rfl, Nat.le_of_ble_eq_true rfl⟩ rfl ⟨_, (C.1 j (by omega)).2.1⟩ (Nat.le_of_ble_eq_true rfl) (dk rfl) ?_
  rintro _ rfl
  rw [tj.len]
  iterate 3 refine fst1_ok X (dk rfl) rfl ?_
  refine callVT_ok (ci := 7) (T := TX5) (N := 3) (av := [vI i]) (r := []) X E (s5_becomeName _ Y C.1 (i := j) (by omega) (nI i)) lkX5_becomeName mlX6_66 lmX5_becomeName lpX5_becomeName ⟨Nat.le_of_ble_eq_true rfl, Nat.le_of_ble_eq_true rfl⟩ ⟨Nat.le_of_ble_eq_true rfl, Nat.le_of_ble_eq_true rfl⟩ rfl (C.1 j (by omega)).2.1 (Nat.le_of_ble_eq_true rfl) (dk rfl) (fun h2 S2 f2 => ?_)
  have C2 := C.tm Y S2 f2
  iterate 2 refine fst1_ok X (dk rfl) rfl ?_
  refine callV_ok (ci := 8) (T := TX6) (N := 14) (av := [vI nj.length]) (r := []) X E (s6_did h2 C2 _) lkX6_did mlX6_80 lmX6_did lpX6_did ⟨Nat.le_of_ble_eq_true rfl, Nat.le_of_ble_eq_true rfl⟩ ⟨Nat.le_of_ble_eq_true rfl, Nat.le_of_ble_eq_true rfl⟩ rfl C2.2.1 (Nat.le_of_ble_eq_true rfl) (dk rfl) ?_
  rintro _ h3 ⟨rfl, C3, f3⟩
  have e : aName (nI j) (nI i) st = slS st (st.1.set j [i]) (nI nj.length) := by
    unfold aName
    rw [if_pos (okI_t hj (by decide)), if_pos (okI_t hi (by decide)), xI_n (by omega), xI_n (by omega), getD_of sj]
  rw [e]
  refine WRX.ret ?_
  exact reti_ok X hr hlk rfl (dk rfl) (⟨rfl, rfl, ⟨_, C3, H.set hj O.1 [i] _ _, O.set ⟨TW.name hi, Nat.le_of_ble_eq_true rfl⟩ j _ _⟩, (f2.frC C.1).trans f3⟩) (Nat.le_of_ble_eq_true rfl) (Nat.le_of_ble_eq_true rfl)
set_option maxHeartbeats 8000000 in
theorem s6_copy (h : AH) (hl : la.stackTraces = false) (Y : LYO B Q) {st : ST} (C0 : StC B Q P ox kn h st) (x1 x2 : Int32) : CTX la D cA B0 pa yX6_copy cX6_copy 5 (some .int) (rmD 7 2 12) [.ref ox, .int x1, .int x2] h (AP B Q P ox kn (aCopy x1 x2 st) h) (AX (aCopy x1 x2 st) st h) := by
  refine CTX_of (by decide +kernel) (Nat.le_of_ble_eq_true rfl) ?_
  intro p e s m args below meth c X E hr hlk hnm ht
  have dk : ∀ {pc : Nat} {q : Instr × Nat}, lkd DX6_copy pc = some q → decode cX6_copy pc = .ok q := lkd_ok DX6_copy_ok
  obtain ⟨F, C, H, O⟩ := id C0
  iterate 2 refine fst1_ok X (dk rfl) rfl ?_
  refine callVX_ok (ci := 8) (T := TX6) (N := 14) (av := [.int x1]) (r := []) X E ht hlk (s6_termOf h hl C x1) (fun E1 h1 z => AX.one (by unfold aCopy; rw [if_neg (by rw [okI_f z.2.1]; decide)]) ⟨z.1, z.2.2⟩) lkX6_termOf mlX6_69 lmX6_termOf lpX6_termOf ⟨Nat.le_of_ble_eq_true rfl, Nat.le_of_ble_eq_true rfl⟩ ⟨Nat.le_of_ble_eq_true rfl, Nat.le_of_ble_eq_true rfl⟩ rfl C.2.1 (Nat.le_of_ble_eq_true rfl) (dk rfl) ?_
  rintro _ h1 ⟨⟨j, hj, rfl, rfl⟩, eh⟩
  obtain rfl := eh.symm
  iterate 3 refine fst1_ok X (dk rfl) rfl ?_
  refine callVX_ok (ci := 8) (T := TX6) (N := 14) (av := [.int x2]) (r := []) X E ht hlk (s6_termOf _ hl C x2) (fun E1 h1 z => AX.one (by unfold aCopy; rw [if_pos (okI_t hj (by decide))]; rw [if_neg (by rw [okI_f z.2.1]; decide)]) ⟨z.1, z.2.2⟩) lkX6_termOf mlX6_69 lmX6_termOf lpX6_termOf ⟨Nat.le_of_ble_eq_true rfl, Nat.le_of_ble_eq_true rfl⟩ ⟨Nat.le_of_ble_eq_true rfl, Nat.le_of_ble_eq_true rfl⟩ rfl C.2.1 (Nat.le_of_ble_eq_true rfl) (dk rfl) ?_
  rintro _ h1 ⟨⟨i, hi, rfl, rfl⟩, eh⟩
  obtain rfl := eh.symm
  obtain ⟨nj, sj, ej, tj, wj, lj⟩ := H.slot O hj
  iterate 3 refine fst1_ok X (dk rfl) rfl ?_
  have hrm : rmI i = 16 := if_pos (by omega)
  refine callVT_ok (ci := 7) (T := TX5) (N := 3) (av := [.ref (B j)]) (r := []) X E (s5_becomeAs _ Y C.1 (i := i) (by omega) (j := j) (by omega) (by rw [tj.len, hrm]; exact lj)) lkX5_becomeAs mlX6_108 lmX5_becomeAs lpX5_becomeAs ⟨Nat.le_of_ble_eq_true rfl, Nat.le_of_ble_eq_true rfl⟩ ⟨Nat.le_of_ble_eq_true rfl, Nat.le_of_ble_eq_true rfl⟩ rfl (C.1 i (by omega)).2.1 (Nat.le_of_ble_eq_true rfl) (dk rfl) (fun h2 S2 f2 => ?_)
  rw [ej] at S2
  have C2 := C.tm Y S2 f2
  iterate 2 refine fst1_ok X (dk rfl) rfl ?_
  refine callVR_ok (ci := 7) (T := TX5) (N := 3) (av := []) (r := [.ref ox]) X E (s5_length h2 S2 (i := i) (by omega)) lkX5_length mlX6_76 lmX5_length lpX5_length ⟨Nat.le_of_ble_eq_true rfl, Nat.le_of_ble_eq_true rfl⟩ ⟨Nat.le_of_ble_eq_true rfl, Nat.le_of_ble_eq_true rfl⟩ rfl ⟨_, (S2 i (by omega)).2.1⟩ (Nat.le_of_ble_eq_true rfl) (dk rfl) ?_
  rintro _ rfl
  rw [upF_self, List.length_map]
  refine callV_ok (ci := 8) (T := TX6) (N := 14) (av := [vI nj.length]) (r := []) X E (s6_did h2 C2 _) lkX6_did mlX6_80 lmX6_did lpX6_did ⟨Nat.le_of_ble_eq_true rfl, Nat.le_of_ble_eq_true rfl⟩ ⟨Nat.le_of_ble_eq_true rfl, Nat.le_of_ble_eq_true rfl⟩ rfl C2.2.1 (Nat.le_of_ble_eq_true rfl) (dk rfl) ?_
  rintro _ h3 ⟨rfl, C3, f3⟩
  have e : aCopy (nI j) (nI i) st = slS st (st.1.set i nj) (nI nj.length) := by
    unfold aCopy
    rw [if_pos (okI_t hj (by decide)), if_pos (okI_t hi (by decide)), xI_n (by omega), xI_n (by omega), getD_of sj]
    unfold giveS
    rw [if_neg (by omega)]
  rw [e]
  refine WRX.ret ?_
  exact reti_ok X hr hlk rfl (dk rfl) (⟨rfl, rfl, ⟨_, C3, H.set hi O.1 nj _ _, O.set ⟨wj, lj⟩ i _ _⟩, (f2.frC C.1).trans f3⟩) (Nat.le_of_ble_eq_true rfl) (Nat.le_of_ble_eq_true rfl)
set_option maxHeartbeats 16000000 in
theorem s6_swap (h : AH) (hl : la.stackTraces = false) (Y : LYO B Q) {st : ST} (C0 : StC B Q P ox kn h st) (x1 x2 : Int32) : CTX la D cA B0 pa yX6_swap cX6_swap 6 (some .int) (rmD 7 2 12) [.ref ox, .int x1, .int x2] h (AP B Q P ox kn (aSwap x1 x2 st) h) (AX (aSwap x1 x2 st) st h) := by
  refine CTX_of (by decide +kernel) (Nat.le_of_ble_eq_true rfl) ?_
  intro p e s m args below meth c X E hr hlk hnm ht
  have dk : ∀ {pc : Nat} {q : Instr × Nat}, lkd DX6_swap pc = some q → decode cX6_swap pc = .ok q := lkd_ok DX6_swap_ok
  obtain ⟨F, C, H, O⟩ := id C0
  iterate 2 refine fst1_ok X (dk rfl) rfl ?_
  refine callVX_ok (ci := 8) (T := TX6) (N := 14) (av := [.int x1]) (r := []) X E ht hlk (s6_termOf h hl C x1) (fun E1 h1 z => AX.one (by unfold aSwap; rw [if_neg (by rw [okI_f z.2.1]; decide)]) ⟨z.1, z.2.2⟩) lkX6_termOf mlX6_69 lmX6_termOf lpX6_termOf ⟨Nat.le_of_ble_eq_true rfl, Nat.le_of_ble_eq_true rfl⟩ ⟨Nat.le_of_ble_eq_true rfl, Nat.le_of_ble_eq_true rfl⟩ rfl C.2.1 (Nat.le_of_ble_eq_true rfl) (dk rfl) ?_
  rintro _ h1 ⟨⟨j, hj, rfl, rfl⟩, eh⟩
  obtain rfl := eh.symm
  iterate 3 refine fst1_ok X (dk rfl) rfl ?_
  refine callVX_ok (ci := 8) (T := TX6) (N := 14) (av := [.int x2]) (r := []) X E ht hlk (s6_termOf _ hl C x2) (fun E1 h1 z => AX.one (by unfold aSwap; rw [if_pos (okI_t hj (by decide))]; rw [if_neg (by rw [okI_f z.2.1]; decide)]) ⟨z.1, z.2.2⟩) lkX6_termOf mlX6_69 lmX6_termOf lpX6_termOf ⟨Nat.le_of_ble_eq_true rfl, Nat.le_of_ble_eq_true rfl⟩ ⟨Nat.le_of_ble_eq_true rfl, Nat.le_of_ble_eq_true rfl⟩ rfl C.2.1 (Nat.le_of_ble_eq_true rfl) (dk rfl) ?_
  rintro _ h1 ⟨⟨i, hi, rfl, rfl⟩, eh⟩
  obtain rfl := eh.symm
  obtain ⟨nj, sj, ej, tj, wj, lj⟩ := H.slot O hj
  obtain ⟨ni, si, ei, ti, wi, li⟩ := H.slot O hi
  iterate 3 refine fst1_ok X (dk rfl) rfl ?_
  refine callVR_ok (ci := 7) (T := TX5) (N := 3) (av := [.ref (B i)]) (r := []) X E (s5_isLike _ C.1 (i := j) (by omega) tj (u := i) (by omega) ti wj.1 wi.1) lkX5_isLike mlX6_111 lmX5_isLike lpX5_isLike ⟨Nat.le_of_ble_eq_true rfl, Nat.le_of_ble_eq_true rfl⟩ ⟨Nat.le_of_ble_eq_true rfl, Nat.le_of_ble_eq_true rfl⟩ rfl ⟨_, (C.1 j (by omega)).2.1⟩ (Nat.le_of_ble_eq_true rfl) (dk rfl) ?_
  rintro _ rfl
  iterate 2 refine fst1_ok X (dk rfl) rfl ?_
  refine getf_ok X flX6_24 (dk rfl) C.2.1 rfl ?_
  refine fst1_ok X (dk rfl) rfl ?_
  refine callVT_ok (ci := 7) (T := TX5) (N := 3) (av := [.ref (B j)]) (r := []) X E (s5_becomeAs _ Y C.1 (i := 30) (by omega) (j := j) (by omega) (by rw [tj.len]; exact lj)) lkX5_becomeAs mlX6_108 lmX5_becomeAs lpX5_becomeAs ⟨Nat.le_of_ble_eq_true rfl, Nat.le_of_ble_eq_true rfl⟩ ⟨Nat.le_of_ble_eq_true rfl, Nat.le_of_ble_eq_true rfl⟩ rfl (C.1 30 (by omega)).2.1 (Nat.le_of_ble_eq_true rfl) (dk rfl) (fun h2 S2 f2 => ?_)
  have C2 := C.tm Y S2 f2
  iterate 2 refine fst1_ok X (dk rfl) rfl ?_
  have hrj : rmI j = 16 := if_pos (by omega)
  have hri : rmI i = 16 := if_pos (by omega)
  refine callVT_ok (ci := 7) (T := TX5) (N := 3) (av := [.ref (B i)]) (r := []) X E (s5_becomeAs h2 Y S2 (i := j) (by omega) (j := i) (by omega) (by rw [upF_ne _ _ (by omega), ti.len, hrj]; exact li)) lkX5_becomeAs mlX6_108 lmX5_becomeAs lpX5_becomeAs ⟨Nat.le_of_ble_eq_true rfl, Nat.le_of_ble_eq_true rfl⟩ ⟨Nat.le_of_ble_eq_true rfl, Nat.le_of_ble_eq_true rfl⟩ rfl (S2 j (by omega)).2.1 (Nat.le_of_ble_eq_true rfl) (dk rfl) (fun h3 S3 f3 => ?_)
  rw [upF_ne _ _ (show i ≠ 30 by omega)] at S3
  have C3 := C2.tm Y S3 f3
  iterate 2 refine fst1_ok X (dk rfl) rfl ?_
  refine getf_ok X flX6_24 (dk rfl) C3.2.1 rfl ?_
  have e30 : upF (upF F 30 (F j)) j (F i) 30 = F j := by rw [upF_ne _ _ (by omega), upF_self]
  refine callVT_ok (ci := 7) (T := TX5) (N := 3) (av := [.ref (B 30)]) (r := []) X E (s5_becomeAs h3 Y S3 (i := i) (by omega) (j := 30) (by omega) (by rw [e30, tj.len, hri]; exact lj)) lkX5_becomeAs mlX6_108 lmX5_becomeAs lpX5_becomeAs ⟨Nat.le_of_ble_eq_true rfl, Nat.le_of_ble_eq_true rfl⟩ ⟨Nat.le_of_ble_eq_true rfl, Nat.le_of_ble_eq_true rfl⟩ rfl (S3 i (by omega)).2.1 (Nat.le_of_ble_eq_true rfl) (dk rfl) (fun h4 S4 f4 => ?_)
  rw [e30, ei, ej] at S4
  have C4 := C3.tm Y S4 f4
  have H4 : FS (upF (upF (upF F 30 (nj.map nI, false)) j (ni.map nI, false)) i (nj.map nI, false)) ((st.1.set j ni).set i nj, st.2.1, st.2.2.1 + Int32.ofInt 1, st.2.2.2) := by
    have q1 := (upF_fs H (i := 30) (by omega) (nj.map nI, false)).set hj O.1 ni st.2.2.1 st.2.2.2
    exact q1.set hi (by show (st.1.set j ni).length = 6; rw [List.length_set]; exact O.1) nj _ _
  have O4 : StO ((st.1.set j ni).set i nj, st.2.1, st.2.2.1 + Int32.ofInt 1, st.2.2.2) := (O.set ⟨wi, li⟩ j st.2.2.1 st.2.2.2).set ⟨wj, lj⟩ i _ _
  have fin : ∀ (t : Int32), t = (if nj = ni then 0 else 1) → ∀ l : List (Nat × Value), WRX p la e (rmD 7 2 12) s m args below meth c D cA B0 6 (AP B Q P ox kn (aSwap (nI j) (nI i) st) h) (AX (aSwap (nI j) (nI i) st) st h) 55 l [.int t, .ref ox] h4 (0 + 1 + 1) (0 + 6 + 6) := by
    intro t ht0 l
    refine callV_ok (ci := 8) (T := TX6) (N := 14) (av := [.int t]) (r := []) X E (s6_did h4 C4 _) lkX6_did mlX6_80 lmX6_did lpX6_did ⟨Nat.le_of_ble_eq_true rfl, Nat.le_of_ble_eq_true rfl⟩ ⟨Nat.le_of_ble_eq_true rfl, Nat.le_of_ble_eq_true rfl⟩ rfl C4.2.1 (Nat.le_of_ble_eq_true rfl) (dk rfl) ?_
    rintro _ h5 ⟨rfl, C5, f5⟩
    have e : aSwap (nI j) (nI i) st = slS st ((st.1.set j ni).set i nj) t := by
      unfold aSwap
      rw [if_pos (okI_t hj (by decide)), if_pos (okI_t hi (by decide)), xI_n (by omega), xI_n (by omega), getD_of sj, getD_of si, ht0]
    rw [e]
    refine WRX.ret ?_
    exact reti_ok X hr hlk rfl (dk rfl) (⟨rfl, rfl, ⟨_, C5, H4, O4⟩, ((((f2.frC C.1).trans (f3.frC S2)).trans (f4.frC S3)).trans f5)⟩) (Nat.le_of_ble_eq_true rfl) (Nat.le_of_ble_eq_true rfl)
  iterate 2 refine fst1_ok X (dk rfl) rfl ?_
  by_cases hs : nj = ni
  · rw [decide_eq_true hs]
    refine br_ok X (dk rfl) rfl (show ((47 : Nat) : Int) + 7 = ((54 : Nat) : Int) from rfl) (fun q => absurd q bI_t) (fun _ => ?_)
    refine fst1_ok X (dk rfl) rfl ?_
    refine br_ok X (dk rfl) rfl (show ((51 : Nat) : Int) + 4 = ((55 : Nat) : Int) from rfl) (fun _ => ?_) (fun q => absurd trivial q)
    exact fin _ (by rw [if_pos hs]; rfl) _
  · rw [decide_eq_false hs]
    refine br_ok X (dk rfl) rfl (show ((47 : Nat) : Int) + 7 = ((54 : Nat) : Int) from rfl) (fun _ => ?_) (fun q => absurd bI_f' q)
    refine fst1_ok X (dk rfl) rfl ?_
    exact fin _ (by rw [if_neg hs]; rfl) _
end S08
end Uc08acts1
section Uc09acts2
/-! the class's acts, strongly: parts, grafts, uses (printed by wip/p20/genS8.py) -/
def aHead (x1 x2 x3 x4 x5 : Int32) (st : ST) : RS := if okI 6 x1 then (if okI 6 x3 then (if okI 6 x4 then (if okI 6 x5 then (if okI 8 x2 then
  giveS (xI x1) ((xI x2 + 10) :: ((([st.1.getD (xI x3) [], st.1.getD (xI x4) [], st.1.getD (xI x5) []] : List (List Nat)).take (pF (xI x2 + 10))).flatten)) (nI ((xI x2 + 10) :: ((([st.1.getD (xI x3) [], st.1.getD (xI x4) [], st.1.getD (xI x5) []] : List (List Nat)).take (pF (xI x2 + 10))).flatten)).length) st
  else ((2, 0), st)) else ((1, 0), st)) else ((1, 0), st)) else ((1, 0), st)) else ((1, 0), st)
theorem addR_app {L : Nat} (t : TC) (xs ys : List Int32) : addR L (addR L t xs) ys = addR L t (xs ++ ys) := by
  unfold addR
  rw [List.foldl_append]
theorem addT_rows {L : Nat} (t : TC) (zs : List Nat) : addT L t (zs.map nI, false) = addR L t (zs.map nI) := by
  unfold addT
  exact Prod.ext rfl (Bool.or_false _)
theorem TW_used {rows : List (List Nat)} {ts : List Nat} (H : AO rows) (h : TW ts) : TW (usedL rows ts) := TW.used (rows := rows) (fun z hz => (H.2 z hz).1) (by rw [H.1]; omega) h
theorem okI_lt {N : Nat} {x : Int32} : okI N x = decide (¬ x < 0 ∧ x.toNatClampNeg < N) := by
  unfold okI
  rw [Bool.decide_and]
theorem okI_ex {N : Nat} {x : Int32} (h : okI N x = true) : ∃ j, j < N ∧ j < 2 ^ 31 ∧ x = nI j := by
  unfold okI at h
  rw [Bool.and_eq_true, decide_eq_true_eq, decide_eq_true_eq] at h
  obtain ⟨j, hj, rfl⟩ := nI_of h.1
  rw [nI_clamp hj] at h
  exact ⟨j, h.2, hj, rfl⟩
section S09
variable {la : Launch} {D : va_G} {cA : Nat → ClassId} {B0 pa : Nat} {B Q P : Nat → Nat} {ox : Nat} {kn : Int32}
set_option maxHeartbeats 16000000 in
theorem s6_part (h : AH) (hl : la.stackTraces = false) (Y : LYO B Q) {st : ST} (C0 : StC B Q P ox kn h st) (x1 x2 x3 : Int32) : CTX la D cA B0 pa yX6_part cX6_part 6 (some .int) (rmD 7 2 12) [.ref ox, .int x1, .int x2, .int x3] h (AP B Q P ox kn (aPart x1 x2 x3 st) h) (AX (aPart x1 x2 x3 st) st h) := by
  refine CTX_of (by decide +kernel) (Nat.le_of_ble_eq_true rfl) ?_
  intro p e s m args below meth c X E hr hlk hnm ht
  have dk : ∀ {pc : Nat} {q : Instr × Nat}, lkd DX6_part pc = some q → decode cX6_part pc = .ok q := lkd_ok DX6_part_ok
  obtain ⟨F, C, H, O⟩ := id C0
  iterate 2 refine fst1_ok X (dk rfl) rfl ?_
  refine callVX_ok (ci := 8) (T := TX6) (N := 14) (av := [.int x1]) (r := []) X E ht hlk (s6_termOf h hl C x1) (fun E1 h1 z => AX.one (by unfold aPart; rw [if_neg (by rw [okI_f z.2.1]; decide)]) ⟨z.1, z.2.2⟩) lkX6_termOf mlX6_69 lmX6_termOf lpX6_termOf ⟨Nat.le_of_ble_eq_true rfl, Nat.le_of_ble_eq_true rfl⟩ ⟨Nat.le_of_ble_eq_true rfl, Nat.le_of_ble_eq_true rfl⟩ rfl C.2.1 (Nat.le_of_ble_eq_true rfl) (dk rfl) ?_
  rintro _ h1 ⟨⟨j, hj, rfl, rfl⟩, eh⟩
  obtain rfl := eh.symm
  iterate 3 refine fst1_ok X (dk rfl) rfl ?_
  refine callVX_ok (ci := 8) (T := TX6) (N := 14) (av := [.int x3]) (r := []) X E ht hlk (s6_termOf _ hl C x3) (fun E1 h1 z => AX.one (by unfold aPart; rw [if_pos (okI_t hj (by decide))]; rw [if_neg (by rw [okI_f z.2.1]; decide)]) ⟨z.1, z.2.2⟩) lkX6_termOf mlX6_69 lmX6_termOf lpX6_termOf ⟨Nat.le_of_ble_eq_true rfl, Nat.le_of_ble_eq_true rfl⟩ ⟨Nat.le_of_ble_eq_true rfl, Nat.le_of_ble_eq_true rfl⟩ rfl C.2.1 (Nat.le_of_ble_eq_true rfl) (dk rfl) ?_
  rintro _ h1 ⟨⟨i, hi, rfl, rfl⟩, eh⟩
  obtain rfl := eh.symm
  obtain ⟨nj, sj, ej, tj, wj, lj⟩ := H.slot O hj
  obtain ⟨ni, si, ei, ti, wi, li⟩ := H.slot O hi
  iterate 3 refine fst1_ok X (dk rfl) rfl ?_
  refine callVR_ok (ci := 7) (T := TX5) (N := 3) (av := [.int x2]) (r := []) X E (s5_hasPlace _ C.1 (i := j) (by omega) x2) lkX5_hasPlace mlX6_115 lmX5_hasPlace lpX5_hasPlace ⟨Nat.le_of_ble_eq_true rfl, Nat.le_of_ble_eq_true rfl⟩ ⟨Nat.le_of_ble_eq_true rfl, Nat.le_of_ble_eq_true rfl⟩ rfl ⟨_, (C.1 j (by omega)).2.1⟩ (Nat.le_of_ble_eq_true rfl) (dk rfl) ?_
  rintro _ rfl
  rw [tj.len, ← okI_lt]
  cases hp : okI nj.length x2 with
  | false =>
    refine br_ok X (dk rfl) rfl (show ((20 : Nat) : Int) + 8 = ((28 : Nat) : Int) from rfl) (fun q => absurd q bI_f) (fun _ => ?_)
    refine fst1_ok X (dk rfl) rfl ?_
    refine callV_ok (ci := 8) (T := TX6) (N := 14) (av := []) (r := []) X E (s6_refuse _ C) lkX6_refuse mlX6_119 lmX6_refuse lpX6_refuse ⟨Nat.le_of_ble_eq_true rfl, Nat.le_of_ble_eq_true rfl⟩ ⟨Nat.le_of_ble_eq_true rfl, Nat.le_of_ble_eq_true rfl⟩ rfl C.2.1 (Nat.le_of_ble_eq_true rfl) (dk rfl) ?_
    rintro _ h2 ⟨rfl, C2, f2⟩
    have e : aPart (nI j) x2 (nI i) st = noS st := by
      unfold aPart
      rw [if_pos (okI_t hj (by decide)), if_pos (okI_t hi (by decide)), xI_n (by omega), getD_of sj, if_neg (by rw [hp]; decide)]
    rw [e]
    refine WRX.ret ?_
    exact reti_ok X hr hlk rfl (dk rfl) (⟨rfl, rfl, ⟨_, C2, H.cnt _ _, O.cnt _ _⟩, f2⟩) (Nat.le_of_ble_eq_true rfl) (Nat.le_of_ble_eq_true rfl)
  | true =>
    refine br_ok X (dk rfl) rfl (show ((20 : Nat) : Int) + 8 = ((28 : Nat) : Int) from rfl) (fun _ => ?_) (fun q => absurd bI_t q)
    obtain ⟨p, hp1, hp2, rfl⟩ := okI_ex hp
    obtain ⟨k1, k2, k3, k4⟩ := subTW wj hp1
    refine fst1_ok X (dk rfl) rfl ?_
    refine getf_ok X flX6_24 (dk rfl) C.2.1 rfl ?_
    refine callVT_ok (ci := 7) (T := TX5) (N := 3) (av := []) (r := []) X E (s5_empty _ Y C.1 (i := 30) (by omega)) lkX5_empty mlX6_94 lmX5_empty lpX5_empty ⟨Nat.le_of_ble_eq_true rfl, Nat.le_of_ble_eq_true rfl⟩ ⟨Nat.le_of_ble_eq_true rfl, Nat.le_of_ble_eq_true rfl⟩ rfl (C.1 30 (by omega)).2.1 (Nat.le_of_ble_eq_true rfl) (dk rfl) (fun h2 S2 f2 => ?_)
    have C2 := C.tm Y S2 f2
    have t2j : TN (upF F 30 ([], false) j) nj := by rw [upF_ne _ _ (by omega)]; exact tj
    refine fst1_ok X (dk rfl) rfl ?_
    refine getf_ok X flX6_24 (dk rfl) C2.2.1 rfl ?_
    iterate 4 refine fst1_ok X (dk rfl) rfl ?_
    refine callVR_ok (ci := 7) (T := TX5) (N := 3) (av := [vI p]) (r := [vI p, .ref (B j), .ref (B 30)]) X E (s5_endOf h2 S2 (i := j) (by omega) t2j k1) lkX5_endOf mlX6_122 lmX5_endOf lpX5_endOf ⟨Nat.le_of_ble_eq_true rfl, Nat.le_of_ble_eq_true rfl⟩ ⟨Nat.le_of_ble_eq_true rfl, Nat.le_of_ble_eq_true rfl⟩ rfl ⟨_, (S2 j (by omega)).2.1⟩ (Nat.le_of_ble_eq_true rfl) (dk rfl) ?_
    rintro _ rfl
    refine callVT_ok (ci := 7) (T := TX5) (N := 3) (av := [.ref (B j), vI p, vI (p + tl nj p)]) (r := []) X E (s5_addRow h2 Y S2 (i := 30) (by omega) (j := j) (by omega) (by omega) (a := p) (b := p + tl nj p) (by omega) (by rw [t2j.len]; omega)) lkX5_addRow mlX6_125 lmX5_addRow lpX5_addRow ⟨Nat.le_of_ble_eq_true rfl, Nat.le_of_ble_eq_true rfl⟩ ⟨Nat.le_of_ble_eq_true rfl, Nat.le_of_ble_eq_true rfl⟩ rfl (S2 30 (by omega)).2.1 (Nat.le_of_ble_eq_true rfl) (dk rfl) (fun h3 S3 f3 => ?_)
    have C3 := C2.tm Y S3 f3
    have e30 : upF (upF F 30 ([], false)) 30 (addR (rmI 30) (upF F 30 ([], false) 30) (((upF F 30 ([], false) j).1.drop p).take (p + tl nj p - p))) 30 = addR 16 ([], false) ((sub' nj p).map nI) := by
      rw [upF_self, upF_self, t2j.1, Nat.add_sub_cancel_left, ← List.map_drop, ← List.map_take]
      rfl
    iterate 2 refine fst1_ok X (dk rfl) rfl ?_
    refine callV_ok (ci := 8) (T := TX6) (N := 14) (av := [.ref (B i)]) (r := []) X E (s6_putSpareInto h3 Y C3 (j := i) hi (zs := _) e30) lkX6_putSpareInto mlX6_104 lmX6_putSpareInto lpX6_putSpareInto ⟨Nat.le_of_ble_eq_true rfl, Nat.le_of_ble_eq_true rfl⟩ ⟨Nat.le_of_ble_eq_true rfl, Nat.le_of_ble_eq_true rfl⟩ rfl C3.2.1 (Nat.le_of_ble_eq_true rfl) (dk rfl) ?_
    intro v h4 G
    have Gf := gvP.ap G ((f2.frC C.1).trans (f3.frC S2)) (upF_fs (upF_fs H (i := 30) (by omega) _) (i := 30) (by omega) _) O hi k4
    have e : aPart (nI j) (nI p) (nI i) st = giveS i (sub' nj p) (nI (sub' nj p).length) st := by
      unfold aPart
      rw [if_pos (okI_t hj (by decide)), if_pos (okI_t hi (by decide)), xI_n (by omega), xI_n (by omega), xI_n (by omega), getD_of sj, if_pos hp]
    rw [← e] at Gf
    obtain ⟨g1, rfl, g3⟩ := Gf
    refine WRX.ret ?_
    exact reti_ok X hr hlk rfl (dk rfl) (⟨g1, rfl, g3⟩) (Nat.le_of_ble_eq_true rfl) (Nat.le_of_ble_eq_true rfl)
set_option maxHeartbeats 16000000 in
theorem s6_graft (h : AH) (hl : la.stackTraces = false) (Y : LYO B Q) {st : ST} (C0 : StC B Q P ox kn h st) (x1 x2 x3 : Int32) : CTX la D cA B0 pa yX6_graft cX6_graft 6 (some .int) (rmD 7 2 12) [.ref ox, .int x1, .int x2, .int x3] h (AP B Q P ox kn (aGraft x1 x2 x3 st) h) (AX (aGraft x1 x2 x3 st) st h) := by
  refine CTX_of (by decide +kernel) (Nat.le_of_ble_eq_true rfl) ?_
  intro p e s m args below meth c X E hr hlk hnm ht
  have dk : ∀ {pc : Nat} {q : Instr × Nat}, lkd DX6_graft pc = some q → decode cX6_graft pc = .ok q := lkd_ok DX6_graft_ok
  obtain ⟨F, C, H, O⟩ := id C0
  iterate 2 refine fst1_ok X (dk rfl) rfl ?_
  refine callVX_ok (ci := 8) (T := TX6) (N := 14) (av := [.int x1]) (r := []) X E ht hlk (s6_termOf h hl C x1) (fun E1 h1 z => AX.one (by unfold aGraft; rw [if_neg (by rw [okI_f z.2.1]; decide)]) ⟨z.1, z.2.2⟩) lkX6_termOf mlX6_69 lmX6_termOf lpX6_termOf ⟨Nat.le_of_ble_eq_true rfl, Nat.le_of_ble_eq_true rfl⟩ ⟨Nat.le_of_ble_eq_true rfl, Nat.le_of_ble_eq_true rfl⟩ rfl C.2.1 (Nat.le_of_ble_eq_true rfl) (dk rfl) ?_
  rintro _ h1 ⟨⟨j, hj, rfl, rfl⟩, eh⟩
  obtain rfl := eh.symm
  iterate 3 refine fst1_ok X (dk rfl) rfl ?_
  refine callVX_ok (ci := 8) (T := TX6) (N := 14) (av := [.int x3]) (r := []) X E ht hlk (s6_termOf _ hl C x3) (fun E1 h1 z => AX.one (by unfold aGraft; rw [if_pos (okI_t hj (by decide))]; rw [if_neg (by rw [okI_f z.2.1]; decide)]) ⟨z.1, z.2.2⟩) lkX6_termOf mlX6_69 lmX6_termOf lpX6_termOf ⟨Nat.le_of_ble_eq_true rfl, Nat.le_of_ble_eq_true rfl⟩ ⟨Nat.le_of_ble_eq_true rfl, Nat.le_of_ble_eq_true rfl⟩ rfl C.2.1 (Nat.le_of_ble_eq_true rfl) (dk rfl) ?_
  rintro _ h1 ⟨⟨i, hi, rfl, rfl⟩, eh⟩
  obtain rfl := eh.symm
  obtain ⟨nj, sj, ej, tj, wj, lj⟩ := H.slot O hj
  obtain ⟨ni, si, ei, ti, wi, li⟩ := H.slot O hi
  iterate 3 refine fst1_ok X (dk rfl) rfl ?_
  refine callVR_ok (ci := 7) (T := TX5) (N := 3) (av := [.int x2]) (r := []) X E (s5_hasPlace _ C.1 (i := j) (by omega) x2) lkX5_hasPlace mlX6_115 lmX5_hasPlace lpX5_hasPlace ⟨Nat.le_of_ble_eq_true rfl, Nat.le_of_ble_eq_true rfl⟩ ⟨Nat.le_of_ble_eq_true rfl, Nat.le_of_ble_eq_true rfl⟩ rfl ⟨_, (C.1 j (by omega)).2.1⟩ (Nat.le_of_ble_eq_true rfl) (dk rfl) ?_
  rintro _ rfl
  rw [tj.len, ← okI_lt]
  cases hp : okI nj.length x2 with
  | false =>
    refine br_ok X (dk rfl) rfl (show ((20 : Nat) : Int) + 8 = ((28 : Nat) : Int) from rfl) (fun q => absurd q bI_f) (fun _ => ?_)
    refine fst1_ok X (dk rfl) rfl ?_
    refine callV_ok (ci := 8) (T := TX6) (N := 14) (av := []) (r := []) X E (s6_refuse _ C) lkX6_refuse mlX6_119 lmX6_refuse lpX6_refuse ⟨Nat.le_of_ble_eq_true rfl, Nat.le_of_ble_eq_true rfl⟩ ⟨Nat.le_of_ble_eq_true rfl, Nat.le_of_ble_eq_true rfl⟩ rfl C.2.1 (Nat.le_of_ble_eq_true rfl) (dk rfl) ?_
    rintro _ h2 ⟨rfl, C2, f2⟩
    have e : aGraft (nI j) x2 (nI i) st = noS st := by
      unfold aGraft
      rw [if_pos (okI_t hj (by decide)), if_pos (okI_t hi (by decide)), xI_n (by omega), getD_of sj, if_neg (by rw [hp]; decide)]
    rw [e]
    refine WRX.ret ?_
    exact reti_ok X hr hlk rfl (dk rfl) (⟨rfl, rfl, ⟨_, C2, H.cnt _ _, O.cnt _ _⟩, f2⟩) (Nat.le_of_ble_eq_true rfl) (Nat.le_of_ble_eq_true rfl)
  | true =>
    refine br_ok X (dk rfl) rfl (show ((20 : Nat) : Int) + 8 = ((28 : Nat) : Int) from rfl) (fun _ => ?_) (fun q => absurd bI_t q)
    obtain ⟨p, hp1, hp2, rfl⟩ := okI_ex hp
    obtain ⟨k1, k2, k3, k4⟩ := subTW wj hp1
    refine fst1_ok X (dk rfl) rfl ?_
    refine getf_ok X flX6_24 (dk rfl) C.2.1 rfl ?_
    refine callVT_ok (ci := 7) (T := TX5) (N := 3) (av := []) (r := []) X E (s5_empty _ Y C.1 (i := 30) (by omega)) lkX5_empty mlX6_94 lmX5_empty lpX5_empty ⟨Nat.le_of_ble_eq_true rfl, Nat.le_of_ble_eq_true rfl⟩ ⟨Nat.le_of_ble_eq_true rfl, Nat.le_of_ble_eq_true rfl⟩ rfl (C.1 30 (by omega)).2.1 (Nat.le_of_ble_eq_true rfl) (dk rfl) (fun h2 S2 f2 => ?_)
    have C2 := C.tm Y S2 f2
    have t2j : TN (upF F 30 ([], false) j) nj := by rw [upF_ne _ _ (by omega)]; exact tj
    refine fst1_ok X (dk rfl) rfl ?_
    refine getf_ok X flX6_24 (dk rfl) C2.2.1 rfl ?_
    iterate 3 refine fst1_ok X (dk rfl) rfl ?_
    refine callVT_ok (ci := 7) (T := TX5) (N := 3) (av := [.ref (B j), vI 0, vI p]) (r := []) X E (s5_addRow h2 Y S2 (i := 30) (by omega) (j := j) (by omega) (by omega) (a := 0) (b := p) (by omega) (by rw [t2j.len]; omega)) lkX5_addRow mlX6_125 lmX5_addRow lpX5_addRow ⟨Nat.le_of_ble_eq_true rfl, Nat.le_of_ble_eq_true rfl⟩ ⟨Nat.le_of_ble_eq_true rfl, Nat.le_of_ble_eq_true rfl⟩ rfl (S2 30 (by omega)).2.1 (Nat.le_of_ble_eq_true rfl) (dk rfl) (fun h3 S3 f3 => ?_)
    have e3 : upF (upF F 30 ([], false)) 30 (addR (rmI 30) (upF F 30 ([], false) 30) (((upF F 30 ([], false) j).1.drop 0).take (p - 0))) = upF F 30 (addR 16 ([], false) ((nj.take p).map nI)) := by
      rw [upF_up, upF_self, t2j.1, List.drop_zero, Nat.sub_zero, ← List.map_take]
      rfl
    rw [e3] at S3
    have C3 := C2.tm Y S3 f3
    refine fst1_ok X (dk rfl) rfl ?_
    refine getf_ok X flX6_24 (dk rfl) C3.2.1 rfl ?_
    refine fst1_ok X (dk rfl) rfl ?_
    have t3i : upF F 30 (addR 16 ([], false) ((nj.take p).map nI)) i = (ni.map nI, false) := by rw [upF_ne _ _ (by omega)]; exact ei
    refine callVT_ok (ci := 7) (T := TX5) (N := 3) (av := [.ref (B i)]) (r := []) X E (s5_addTerm h3 Y S3 (i := 30) (by omega) (j := i) (by omega) (by omega)) lkX5_addTerm mlX6_100 lmX5_addTerm lpX5_addTerm ⟨Nat.le_of_ble_eq_true rfl, Nat.le_of_ble_eq_true rfl⟩ ⟨Nat.le_of_ble_eq_true rfl, Nat.le_of_ble_eq_true rfl⟩ rfl (S3 30 (by omega)).2.1 (Nat.le_of_ble_eq_true rfl) (dk rfl) (fun h4 S4 f4 => ?_)
    rw [t3i, upF_self, upF_up, addT_rows, show rmI 30 = 16 from rfl, addR_app, ← List.map_append] at S4
    have C4 := C3.tm Y S4 f4
    have t4j : TN (upF F 30 (addR 16 ([], false) ((nj.take p ++ ni).map nI)) j) nj := by rw [upF_ne _ _ (by omega)]; exact tj
    refine fst1_ok X (dk rfl) rfl ?_
    refine getf_ok X flX6_24 (dk rfl) C4.2.1 rfl ?_
    iterate 3 refine fst1_ok X (dk rfl) rfl ?_
    refine callVR_ok (ci := 7) (T := TX5) (N := 3) (av := [vI p]) (r := [.ref (B j), .ref (B 30)]) X E (s5_endOf h4 S4 (i := j) (by omega) t4j k1) lkX5_endOf mlX6_122 lmX5_endOf lpX5_endOf ⟨Nat.le_of_ble_eq_true rfl, Nat.le_of_ble_eq_true rfl⟩ ⟨Nat.le_of_ble_eq_true rfl, Nat.le_of_ble_eq_true rfl⟩ rfl ⟨_, (S4 j (by omega)).2.1⟩ (Nat.le_of_ble_eq_true rfl) (dk rfl) ?_
    rintro _ rfl
    refine fst1_ok X (dk rfl) rfl ?_
    refine callVR_ok (ci := 7) (T := TX5) (N := 3) (av := []) (r := [vI (p + tl nj p), .ref (B j), .ref (B 30)]) X E (s5_length h4 S4 (i := j) (by omega)) lkX5_length mlX6_76 lmX5_length lpX5_length ⟨Nat.le_of_ble_eq_true rfl, Nat.le_of_ble_eq_true rfl⟩ ⟨Nat.le_of_ble_eq_true rfl, Nat.le_of_ble_eq_true rfl⟩ rfl ⟨_, (S4 j (by omega)).2.1⟩ (Nat.le_of_ble_eq_true rfl) (dk rfl) ?_
    rintro _ rfl
    rw [t4j.len]
    refine callVT_ok (ci := 7) (T := TX5) (N := 3) (av := [.ref (B j), vI (p + tl nj p), vI nj.length]) (r := []) X E (s5_addRow h4 Y S4 (i := 30) (by omega) (j := j) (by omega) (by omega) (a := p + tl nj p) (b := nj.length) (by omega) (by rw [t4j.len]; omega)) lkX5_addRow mlX6_125 lmX5_addRow lpX5_addRow ⟨Nat.le_of_ble_eq_true rfl, Nat.le_of_ble_eq_true rfl⟩ ⟨Nat.le_of_ble_eq_true rfl, Nat.le_of_ble_eq_true rfl⟩ rfl (S4 30 (by omega)).2.1 (Nat.le_of_ble_eq_true rfl) (dk rfl) (fun h5 S5 f5 => ?_)
    have e5 : upF (upF F 30 (addR 16 ([], false) ((nj.take p ++ ni).map nI))) 30 (addR (rmI 30) (upF F 30 (addR 16 ([], false) ((nj.take p ++ ni).map nI)) 30) (((upF F 30 (addR 16 ([], false) ((nj.take p ++ ni).map nI)) j).1.drop (p + tl nj p)).take (nj.length - (p + tl nj p)))) = upF F 30 (addR 16 ([], false) ((grL nj ni p).map nI)) := by
      rw [upF_up, upF_self, t4j.1, show rmI 30 = 16 from rfl, ← List.map_drop, ← List.map_take, addR_app, ← List.map_append, List.take_of_length_le (l := List.drop (p + tl nj p) nj) (Nat.le_of_eq (List.length_drop))]
      rfl
    rw [e5] at S5
    have C5 := C4.tm Y S5 f5
    iterate 2 refine fst1_ok X (dk rfl) rfl ?_
    refine callV_ok (ci := 8) (T := TX6) (N := 14) (av := [.ref (B j)]) (r := []) X E (s6_putSpareInto h5 Y C5 (j := j) hj (zs := _) (upF_self _ _ _)) lkX6_putSpareInto mlX6_104 lmX6_putSpareInto lpX6_putSpareInto ⟨Nat.le_of_ble_eq_true rfl, Nat.le_of_ble_eq_true rfl⟩ ⟨Nat.le_of_ble_eq_true rfl, Nat.le_of_ble_eq_true rfl⟩ rfl C5.2.1 (Nat.le_of_ble_eq_true rfl) (dk rfl) ?_
    intro v h6 G
    have Gf := gvP.ap G ((((f2.frC C.1).trans (f3.frC S2)).trans (f4.frC S3)).trans (f5.frC S4)) (upF_fs H (i := 30) (by omega) _) O hj (TW.graft wj wi hp1 k1)
    have e : aGraft (nI j) (nI p) (nI i) st = giveS j (grL nj ni p) (nI (grL nj ni p).length) st := by
      unfold aGraft
      rw [if_pos (okI_t hj (by decide)), if_pos (okI_t hi (by decide)), xI_n (by omega), xI_n (by omega), xI_n (by omega), getD_of sj, getD_of si, if_pos hp]
    rw [← e] at Gf
    obtain ⟨g1, rfl, g3⟩ := Gf
    refine WRX.ret ?_
    exact reti_ok X hr hlk rfl (dk rfl) (⟨g1, rfl, g3⟩) (Nat.le_of_ble_eq_true rfl) (Nat.le_of_ble_eq_true rfl)
set_option maxHeartbeats 16000000 in
theorem s6_use (h : AH) (hl : la.stackTraces = false) (Y : LYO B Q) {st : ST} (C0 : StC B Q P ox kn h st) (x1 x2 x3 : Int32) : CTX la D cA B0 pa yX6_use cX6_use 7 (some .int) (rmD 7 3 18) [.ref ox, .int x1, .int x2, .int x3] h (AP B Q P ox kn (aUse x1 x2 x3 st) h) (AX (aUse x1 x2 x3 st) st h) := by
  refine CTX_of (by decide +kernel) (Nat.le_of_ble_eq_true rfl) ?_
  intro p e s m args below meth c X E hr hlk hnm ht
  have dk : ∀ {pc : Nat} {q : Instr × Nat}, lkd DX6_use pc = some q → decode cX6_use pc = .ok q := lkd_ok DX6_use_ok
  obtain ⟨F, C, H, O⟩ := id C0
  iterate 2 refine fst1_ok X (dk rfl) rfl ?_
  refine callVX_ok (ci := 8) (T := TX6) (N := 14) (av := [.int x1]) (r := []) X E ht hlk (s6_answerOf h hl C x1) (fun E1 h1 z => AX.one (by unfold aUse; rw [if_neg (by rw [okI_f z.2.1]; decide)]) ⟨z.1, z.2.2⟩) lkX6_answerOf mlX6_151 lmX6_answerOf lpX6_answerOf ⟨Nat.le_of_ble_eq_true rfl, Nat.le_of_ble_eq_true rfl⟩ ⟨Nat.le_of_ble_eq_true rfl, Nat.le_of_ble_eq_true rfl⟩ rfl C.2.1 (Nat.le_of_ble_eq_true rfl) (dk rfl) ?_
  rintro _ h1 ⟨⟨k, hk, rfl, rfl⟩, eh⟩
  obtain rfl := eh.symm
  iterate 3 refine fst1_ok X (dk rfl) rfl ?_
  refine callVX_ok (ci := 8) (T := TX6) (N := 14) (av := [.int x2]) (r := []) X E ht hlk (s6_termOf _ hl C x2) (fun E1 h1 z => AX.one (by unfold aUse; rw [if_pos (okI_t hk (by decide))]; rw [if_neg (by rw [okI_f z.2.1]; decide)]) ⟨z.1, z.2.2⟩) lkX6_termOf mlX6_69 lmX6_termOf lpX6_termOf ⟨Nat.le_of_ble_eq_true rfl, Nat.le_of_ble_eq_true rfl⟩ ⟨Nat.le_of_ble_eq_true rfl, Nat.le_of_ble_eq_true rfl⟩ rfl C.2.1 (Nat.le_of_ble_eq_true rfl) (dk rfl) ?_
  rintro _ h1 ⟨⟨j, hj, rfl, rfl⟩, eh⟩
  obtain rfl := eh.symm
  iterate 3 refine fst1_ok X (dk rfl) rfl ?_
  refine callVX_ok (ci := 8) (T := TX6) (N := 14) (av := [.int x3]) (r := []) X E ht hlk (s6_termOf _ hl C x3) (fun E1 h1 z => AX.one (by unfold aUse; rw [if_pos (okI_t hk (by decide)), if_pos (okI_t hj (by decide))]; rw [if_neg (by rw [okI_f z.2.1]; decide)]) ⟨z.1, z.2.2⟩) lkX6_termOf mlX6_69 lmX6_termOf lpX6_termOf ⟨Nat.le_of_ble_eq_true rfl, Nat.le_of_ble_eq_true rfl⟩ ⟨Nat.le_of_ble_eq_true rfl, Nat.le_of_ble_eq_true rfl⟩ rfl C.2.1 (Nat.le_of_ble_eq_true rfl) (dk rfl) ?_
  rintro _ h1 ⟨⟨i, hi, rfl, rfl⟩, eh⟩
  obtain rfl := eh.symm
  obtain ⟨nj, sj, ej, tj, wj, lj⟩ := H.slot O hj
  obtain ⟨rows, sk, rk⟩ := H.2 k hk
  have ok := C.2.2.1.2.2.1 k hk
  iterate 2 refine fst1_ok X (dk rfl) rfl ?_
  refine getf_ok X flX6_24 (dk rfl) C.2.1 rfl ?_
  refine callVT_ok (ci := 7) (T := TX5) (N := 3) (av := []) (r := []) X E (s5_empty _ Y C.1 (i := 30) (by omega)) lkX5_empty mlX6_94 lmX5_empty lpX5_empty ⟨Nat.le_of_ble_eq_true rfl, Nat.le_of_ble_eq_true rfl⟩ ⟨Nat.le_of_ble_eq_true rfl, Nat.le_of_ble_eq_true rfl⟩ rfl (C.1 30 (by omega)).2.1 (Nat.le_of_ble_eq_true rfl) (dk rfl) (fun h2 S2 f2 => ?_)
  have C2 := C.tm Y S2 f2
  have t2j : TN (upF F 30 ([], false) j) nj := by rw [upF_ne _ _ (by omega)]; exact tj
  have ok2 := ok.keep C.1 f2
  iterate 4 refine fst1_ok X (dk rfl) rfl ?_
  refine callVR_ok (ci := 7) (T := TX5) (N := 3) (av := []) (r := [vI 0, .ref (B j), .ref (P (7 + k))]) X E (s5_length h2 S2 (i := j) (by omega)) lkX5_length mlX6_76 lmX5_length lpX5_length ⟨Nat.le_of_ble_eq_true rfl, Nat.le_of_ble_eq_true rfl⟩ ⟨Nat.le_of_ble_eq_true rfl, Nat.le_of_ble_eq_true rfl⟩ rfl ⟨_, (S2 j (by omega)).2.1⟩ (Nat.le_of_ble_eq_true rfl) (dk rfl) ?_
  rintro _ rfl
  rw [t2j.len]
  refine fst1_ok X (dk rfl) rfl ?_
  refine getf_ok X flX6_24 (dk rfl) C2.2.1 rfl ?_
  refine callVT_ok (ci := 2) (T := TX0) (N := 1) (av := [.ref (B j), vI 0, vI nj.length, .ref (B 30)]) (r := []) X E (s0_addUsed h2 Y S2 ok2 (i1 := j) (by omega) t2j (i2 := 30) (by omega) (by omega) (by omega) (Nat.zero_le _) (Nat.le_refl _)) lkX0_addUsed mlX6_155 lmX0_addUsed lpX0_addUsed ⟨Nat.le_of_ble_eq_true rfl, Nat.le_of_ble_eq_true rfl⟩ ⟨Nat.le_of_ble_eq_true rfl, Nat.le_of_ble_eq_true rfl⟩ rfl ok2.2.choose_spec.1 (Nat.le_of_ble_eq_true rfl) (dk rfl) (fun h3 S3 f3 => ?_)
  have rk2 : RWX (upF F 30 ([], false)) (6 + 8 * k) rows := ((upF_fs H (i := 30) (by omega) ([], false)).2 k hk).elim (fun r2 q => by have := sk.symm.trans q.1; cases this; exact q.2)
  rw [List.drop_zero, Nat.sub_zero, List.take_length, auC_rows rk2 nj _ wj.2 (by rw [upF_self]; exact Nat.zero_le _), upF_self, upF_up] at S3
  have C3 := C2.tm Y S3 f3
  iterate 2 refine fst1_ok X (dk rfl) rfl ?_
  refine callV_ok (ci := 8) (T := TX6) (N := 14) (av := [.ref (B i)]) (r := []) X E (s6_putSpareInto h3 Y C3 (j := i) hi (zs := _) (upF_self _ _ _)) lkX6_putSpareInto mlX6_104 lmX6_putSpareInto lpX6_putSpareInto ⟨Nat.le_of_ble_eq_true rfl, Nat.le_of_ble_eq_true rfl⟩ ⟨Nat.le_of_ble_eq_true rfl, Nat.le_of_ble_eq_true rfl⟩ rfl C3.2.1 (Nat.le_of_ble_eq_true rfl) (dk rfl) ?_
  intro v h4 G
  have Gf := gvP.ap G ((f2.frC C.1).trans (f3.frC S2)) (upF_fs H (i := 30) (by omega) _) O hi (TW_used rk.ao wj)
  have e : aUse (nI k) (nI j) (nI i) st = giveS i (usedL rows nj) (nI (usedL rows nj).length) st := by
    unfold aUse
    rw [if_pos (okI_t hk (by decide)), if_pos (okI_t hj (by decide)), if_pos (okI_t hi (by decide)), xI_n (by omega), xI_n (by omega), xI_n (by omega), getD_of sk, getD_of sj]
  rw [← e] at Gf
  obtain ⟨g1, rfl, g3⟩ := Gf
  refine WRX.ret ?_
  exact reti_ok X hr hlk rfl (dk rfl) (⟨g1, rfl, g3⟩) (Nat.le_of_ble_eq_true rfl) (Nat.le_of_ble_eq_true rfl)
end S09
end Uc09acts2
