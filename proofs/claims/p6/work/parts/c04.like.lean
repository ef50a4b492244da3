/-! the class, strongly: kinds of letters, ends, likeness (printed by wip/p20/genS3.py) -/
theorem partsF_at : ∀ j, j < 8 → partsF j = vI (pF (j + 10))
  | 0, _ => rfl
  | 1, _ => rfl
  | 2, _ => rfl
  | 3, _ => rfl
  | 4, _ => rfl
  | 5, _ => rfl
  | 6, _ => rfl
  | 7, _ => rfl
theorem nI_8' : (Int8.ofInt 8).toInt32 = nI 8 := by decide +kernel
theorem nI_18' : (Int8.ofInt 18).toInt32 = nI 18 := by decide +kernel
theorem nI_m9 {n : Nat} (h : n < 2 ^ 31) : nI n ≠ (Int8.ofInt (-9)).toInt32 := fun z => nI_pos h (by rw [z]; decide +kernel)
theorem map_get {ns : List Nat} {j x : Nat} (h : ns[j]? = some x) : (ns.map nI)[j]? = some (nI x) := by rw [List.getElem?_map, h]; rfl
/-- a term's letters are these numbers -/
def TN (t : TC) (ns : List Nat) : Prop := t.1 = ns.map nI ∧ ∀ x ∈ ns, okL x
theorem TN.len {t : TC} {ns : List Nat} (h : TN t ns) : t.1.length = ns.length := by rw [h.1, List.length_map]
theorem TN.lt {t : TC} {ns : List Nat} (h : TN t ns) {j x : Nat} (hj : ns[j]? = some x) (h2 : j < 2 ^ 31) : ltX t.1 (nI j) = nI x := by
  rw [h.1]
  exact ltX_nI h2 (map_get hj)
theorem TN.out {t : TC} {ns : List Nat} (h : TN t ns) {j : Nat} (hj : ns.length ≤ j) (h2 : j < 2 ^ 31) : ltX t.1 (nI j) = (Int8.ofInt (-9)).toInt32 := ltX_out h2 (by rw [h.len]; exact hj)
theorem pF_le3 {x : Nat} (h : x < 18) : pF x ≤ 3 := by unfold pF; split <;> omega
section S04
variable {la : Launch} {D : va_G} {cA : Nat → ClassId} {B0 pa : Nat} {B Q : Nat → Nat} {F : Nat → TC}
set_option maxHeartbeats 4000000 in
theorem s6_partsOf (h : AH) {x : Nat} (hx : x < 18) : CT la D cA B0 pa yX6_partsOf cX6_partsOf 1 (some .int) (rmD 0 0 0) [vI x] h (RP (vI (pF x)) h) := by
  refine CT_of (by decide +kernel) (Nat.le_of_ble_eq_true rfl) ?_
  intro p e s m args below meth c X E hr hlk hnm
  have dk : ∀ {pc : Nat} {q : Instr × Nat}, lkd DX6_partsOf pc = some q → decode cX6_partsOf pc = .ok q := lkd_ok DX6_partsOf_ok
  iterate 2 refine fst1_ok X (dk rfl) rfl ?_
  by_cases h10 : x < 10
  · refine br_ok X (dk rfl) rfl (show ((3 : Nat) : Int) + 25 = ((28 : Nat) : Int) from rfl) (fun _ => ?_) (fun q => absurd (by rw [nI_10]; exact (nI_ltI (by omega) (by omega)).mpr h10) q)
    refine fst1_ok X (dk rfl) rfl ?_
    have e : pF x = 0 := by unfold pF; rw [if_pos h10]
    rw [e]
    exact reti_ok X hr hlk rfl (dk rfl) ⟨rfl, rfl⟩ (Nat.le_of_ble_eq_true rfl) (Nat.le_of_ble_eq_true rfl)
  · refine br_ok X (dk rfl) rfl (show ((3 : Nat) : Int) + 25 = ((28 : Nat) : Int) from rfl) (fun q => absurd ((nI_ltI (by omega) (by omega)).mp (by rw [nI_10] at q; exact q)) h10) (fun _ => ?_)
    iterate 2 refine fst1_ok X (dk rfl) rfl ?_
    refine gets_ok X E gsX6_319 (dk rfl) ?_
    refine plen_ok X E (dk rfl) ?_
    refine fst1_ok X (dk rfl) rfl ?_
    refine br_ok X (dk rfl) rfl (show ((14 : Nat) : Int) + 14 = ((28 : Nat) : Int) from rfl) (fun q => absurd q (by rw [nI_10]; exact nI_ge (a := x) (b := 18) (by omega) (by omega))) (fun _ => ?_)
    refine gets_ok X E gsX6_319 (dk rfl) ?_
    iterate 3 refine fst1_ok X (dk rfl) rfl ?_
    rw [nI_10, nI_sub (by omega)]
    refine ptab_ok X E (vp_in_nI (show x - 10 < 8 by omega) (by decide)) (dk rfl) ?_
    rw [nI_clamp (by omega), partsF_at _ (by omega), show x - 10 + 10 = x by omega]
    refine br_ok X (dk rfl) rfl (show ((25 : Nat) : Int) + 4 = ((29 : Nat) : Int) from rfl) (fun _ => ?_) (fun q => absurd trivial q)
    exact reti_ok X hr hlk rfl (dk rfl) ⟨rfl, rfl⟩ (Nat.le_of_ble_eq_true rfl) (Nat.le_of_ble_eq_true rfl)
set_option maxHeartbeats 4000000 in
theorem s6_isName (h : AH) {x : Nat} (hx : x < 2 ^ 20) : CT la D cA B0 pa yX6_isName cX6_isName 1 (some .boolean) (rmD 0 0 0) [vI x] h (RP (.int (bI (decide (x < 8)))) h) := by
  refine CT_of (by decide +kernel) (Nat.le_of_ble_eq_true rfl) ?_
  intro p e s m args below meth c X E hr hlk hnm
  have dk : ∀ {pc : Nat} {q : Instr × Nat}, lkd DX6_isName pc = some q → decode cX6_isName pc = .ok q := lkd_ok DX6_isName_ok
  refine fst1_ok X (dk rfl) rfl ?_
  refine br_ok X (dk rfl) rfl (show ((1 : Nat) : Int) + 13 = ((14 : Nat) : Int) from rfl) (fun q => absurd q (nI_pos (by omega))) (fun _ => ?_)
  iterate 2 refine fst1_ok X (dk rfl) rfl ?_
  by_cases h8 : x < 8
  · rw [decide_eq_true h8]
    refine br_ok X (dk rfl) rfl (show ((7 : Nat) : Int) + 7 = ((14 : Nat) : Int) from rfl) (fun q => absurd q (by rw [nI_8']; exact nI_ge h8 (by omega))) (fun _ => ?_)
    refine fst1_ok X (dk rfl) rfl ?_
    refine br_ok X (dk rfl) rfl (show ((11 : Nat) : Int) + 4 = ((15 : Nat) : Int) from rfl) (fun _ => ?_) (fun q => absurd trivial q)
    exact reti_ok X hr hlk (bI_n true) (dk rfl) ⟨rfl, rfl⟩ (Nat.le_of_ble_eq_true rfl) (Nat.le_of_ble_eq_true rfl)
  · rw [decide_eq_false h8]
    refine br_ok X (dk rfl) rfl (show ((7 : Nat) : Int) + 7 = ((14 : Nat) : Int) from rfl) (fun _ => ?_) (fun q => absurd (by rw [nI_8']; exact (nI_leI (by omega) (by omega)).mpr (by omega)) q)
    refine fst1_ok X (dk rfl) rfl ?_
    exact reti_ok X hr hlk (bI_n false) (dk rfl) ⟨rfl, rfl⟩ (Nat.le_of_ble_eq_true rfl) (Nat.le_of_ble_eq_true rfl)
set_option maxHeartbeats 4000000 in
theorem s6_isHead (h : AH) {x : Nat} (hx : x < 2 ^ 20) : CT la D cA B0 pa yX6_isHead cX6_isHead 1 (some .boolean) (rmD 0 0 0) [vI x] h (RP (.int (bI (decide (10 ≤ x ∧ x < 18)))) h) := by
  refine CT_of (by decide +kernel) (Nat.le_of_ble_eq_true rfl) ?_
  intro p e s m args below meth c X E hr hlk hnm
  have dk : ∀ {pc : Nat} {q : Instr × Nat}, lkd DX6_isHead pc = some q → decode cX6_isHead pc = .ok q := lkd_ok DX6_isHead_ok
  iterate 2 refine fst1_ok X (dk rfl) rfl ?_
  by_cases h10 : x < 10
  · rw [decide_eq_false (fun z => by omega)]
    refine br_ok X (dk rfl) rfl (show ((3 : Nat) : Int) + 13 = ((16 : Nat) : Int) from rfl) (fun _ => ?_) (fun q => absurd (by rw [nI_10]; exact (nI_ltI (by omega) (by omega)).mpr h10) q)
    refine fst1_ok X (dk rfl) rfl ?_
    exact reti_ok X hr hlk (bI_n false) (dk rfl) ⟨rfl, rfl⟩ (Nat.le_of_ble_eq_true rfl) (Nat.le_of_ble_eq_true rfl)
  · refine br_ok X (dk rfl) rfl (show ((3 : Nat) : Int) + 13 = ((16 : Nat) : Int) from rfl) (fun q => absurd ((nI_ltI (by omega) (by omega)).mp (by rw [nI_10] at q; exact q)) h10) (fun _ => ?_)
    iterate 2 refine fst1_ok X (dk rfl) rfl ?_
    by_cases h18 : x < 18
    · rw [decide_eq_true ⟨by omega, h18⟩]
      refine br_ok X (dk rfl) rfl (show ((9 : Nat) : Int) + 7 = ((16 : Nat) : Int) from rfl) (fun q => absurd q (by rw [nI_18']; exact nI_ge h18 (by omega))) (fun _ => ?_)
      refine fst1_ok X (dk rfl) rfl ?_
      refine br_ok X (dk rfl) rfl (show ((13 : Nat) : Int) + 4 = ((17 : Nat) : Int) from rfl) (fun _ => ?_) (fun q => absurd trivial q)
      exact reti_ok X hr hlk (bI_n true) (dk rfl) ⟨rfl, rfl⟩ (Nat.le_of_ble_eq_true rfl) (Nat.le_of_ble_eq_true rfl)
    · rw [decide_eq_false (fun z => h18 z.2)]
      refine br_ok X (dk rfl) rfl (show ((9 : Nat) : Int) + 7 = ((16 : Nat) : Int) from rfl) (fun _ => ?_) (fun q => absurd (by rw [nI_18']; exact (nI_leI (by omega) (by omega)).mpr (by omega)) q)
      refine fst1_ok X (dk rfl) rfl ?_
      exact reti_ok X hr hlk (bI_n false) (dk rfl) ⟨rfl, rfl⟩ (Nat.le_of_ble_eq_true rfl) (Nat.le_of_ble_eq_true rfl)
set_option maxHeartbeats 4000000 in
theorem s6_isHead9 (h : AH)  : CT la D cA B0 pa yX6_isHead cX6_isHead 1 (some .boolean) (rmD 0 0 0) [.int (Int8.ofInt (-9)).toInt32] h (RP (.int (bI false)) h) := by
  refine CT_of (by decide +kernel) (Nat.le_of_ble_eq_true rfl) ?_
  intro p e s m args below meth c X E hr hlk hnm
  have dk : ∀ {pc : Nat} {q : Instr × Nat}, lkd DX6_isHead pc = some q → decode cX6_isHead pc = .ok q := lkd_ok DX6_isHead_ok
  iterate 2 refine fst1_ok X (dk rfl) rfl ?_
  refine br_ok X (dk rfl) rfl (show ((3 : Nat) : Int) + 13 = ((16 : Nat) : Int) from rfl) (fun _ => ?_) (fun q => absurd (by decide +kernel) q)
  refine fst1_ok X (dk rfl) rfl ?_
  exact reti_ok X hr hlk (bI_n false) (dk rfl) ⟨rfl, rfl⟩ (Nat.le_of_ble_eq_true rfl) (Nat.le_of_ble_eq_true rfl)
set_option maxHeartbeats 4000000 in
theorem s6_partsOf9 (h : AH)  : CT la D cA B0 pa yX6_partsOf cX6_partsOf 1 (some .int) (rmD 0 0 0) [.int (Int8.ofInt (-9)).toInt32] h (RP (vI 0) h) := by
  refine CT_of (by decide +kernel) (Nat.le_of_ble_eq_true rfl) ?_
  intro p e s m args below meth c X E hr hlk hnm
  have dk : ∀ {pc : Nat} {q : Instr × Nat}, lkd DX6_partsOf pc = some q → decode cX6_partsOf pc = .ok q := lkd_ok DX6_partsOf_ok
  iterate 2 refine fst1_ok X (dk rfl) rfl ?_
  refine br_ok X (dk rfl) rfl (show ((3 : Nat) : Int) + 25 = ((28 : Nat) : Int) from rfl) (fun _ => ?_) (fun q => absurd (by decide +kernel) q)
  refine fst1_ok X (dk rfl) rfl ?_
  exact reti_ok X hr hlk rfl (dk rfl) ⟨rfl, rfl⟩ (Nat.le_of_ble_eq_true rfl) (Nat.le_of_ble_eq_true rfl)
set_option maxHeartbeats 8000000 in
theorem s5_endOf (h : AH) (S : TS B Q h F) {i : Nat} (hi : i < 52) {ns : List Nat} (hN : TN (F i) ns) {p0 k0 : Nat} (hk : endL 1 (ns.drop p0) = some k0) : CT la D cA B0 pa yX5_endOf cX5_endOf 4 (some .int) (rmD 1 0 0) [.ref (B i), vI p0] h (RP (vI (p0 + k0)) h) := by
  refine CT_of (by decide +kernel) (Nat.le_of_ble_eq_true rfl) ?_
  intro p e s m args below meth c X E hr hlk hnm
  have dk : ∀ {pc : Nat} {q : Instr × Nat}, lkd DX5_endOf pc = some q → decode cX5_endOf pc = .ok q := lkd_ok DX5_endOf_ok
  have hL := rmI_le i
  have hlen := (S i hi).1
  rw [hN.len] at hlen
  obtain ⟨-, a2, -⟩ := S i hi
  rw [hN.len] at a2
  have hle := endL_le hk
  have hp := endL_pos (n := 0) hk
  rw [List.length_drop] at hle
  have loop : ∀ (ys : List Nat) (nd pl j : Nat), ns.drop pl = ys → endL nd ys = some j → pl + j = p0 + k0 → nd + ys.length * 4 < 2 ^ 20 → pl < 2 ^ 20 → ∀ l : List (Nat × Value), lsel l [3, 2, 0, 1] = [(3, vI pl), (2, vI nd), (0, .ref (B i)), (1, vI p0)] → WR p la e (rmD 1 0 0) s m args below meth c D cA B0 4 (RP (vI (p0 + k0)) h) 4 l [] h 0 0 := by
    intro ys
    induction ys with
    | nil =>
      intro nd pl j hd hj hpj hb hpl l hl
      cases nd with
      | succ nd => simp [endL] at hj
      | zero =>
        simp only [endL, Option.some.injEq] at hj
        subst hj
        have hge : ns.length ≤ pl := List.drop_eq_nil_iff.mp hd
        refine WS.sel [3, 2, 0, 1] hl ?_
        iterate 2 refine fst1_ok X (dk rfl) rfl ?_
        refine getf_ok X flX5_21 (dk rfl) a2 rfl ?_
        refine br_ok X (dk rfl) rfl (show ((9 : Nat) : Int) + 26 = ((35 : Nat) : Int) from rfl) (fun _ => ?_) (fun q => absurd (nI_le hge (by omega)) q)
        refine fst1_ok X (dk rfl) rfl ?_
        exact reti_ok X hr hlk rfl (dk rfl) ⟨by rw [← hpj]; rfl, rfl⟩ (Nat.le_of_ble_eq_true rfl) (Nat.le_of_ble_eq_true rfl)
    | cons y r ih =>
      intro nd pl j hd hj hpj hb hpl l hl
      have hlt : pl < ns.length := by
        rcases Nat.lt_or_ge pl ns.length with q | q
        · exact q
        · rw [List.drop_eq_nil_of_le q] at hd; cases hd
      have hy : ns[pl]? = some y := by
        have := congrArg (fun l : List Nat => l[0]?) hd
        simpa using this
      have hr' : ns.drop (pl + 1) = r := by
        have := congrArg List.tail hd
        simpa using this
      have hyx := (hN.2 y (List.mem_of_getElem? hy)).lt
      refine WS.sel [3, 2, 0, 1] hl ?_
      iterate 2 refine fst1_ok X (dk rfl) rfl ?_
      refine getf_ok X flX5_21 (dk rfl) a2 rfl ?_
      refine br_ok X (dk rfl) rfl (show ((9 : Nat) : Int) + 26 = ((35 : Nat) : Int) from rfl) (fun q => absurd q (nI_ge hlt (by omega))) (fun _ => ?_)
      refine fst1_ok X (dk rfl) rfl ?_
      cases nd with
      | zero =>
        simp only [endL, Option.some.injEq] at hj
        subst hj
        refine br_ok X (dk rfl) rfl (show ((13 : Nat) : Int) + 22 = ((35 : Nat) : Int) from rfl) (fun _ => ?_) (fun q => absurd (show nI 0 ≤ 0 by decide) q)
        refine fst1_ok X (dk rfl) rfl ?_
        exact reti_ok X hr hlk rfl (dk rfl) ⟨by rw [← hpj]; rfl, rfl⟩ (Nat.le_of_ble_eq_true rfl) (Nat.le_of_ble_eq_true rfl)
      | succ nd =>
        have hln : (y :: r).length = r.length + 1 := rfl
        rw [hln] at hb
        refine br_ok X (dk rfl) rfl (show ((13 : Nat) : Int) + 22 = ((35 : Nat) : Int) from rfl) (fun q => absurd q (nI_nle (Nat.succ_pos nd) (by omega))) (fun _ => ?_)
        simp only [endL, Option.map_eq_some_iff] at hj
        obtain ⟨j', hj', rfl⟩ := hj
        iterate 3 refine fst1_ok X (dk rfl) rfl ?_
        refine callVR_ok (ci := 7) (T := TX5) (N := 3) (av := [vI pl]) (r := [vI (nd + 1)]) X E (s5_letterAt h S hi (nI pl)) lkX5_letterAt mlX5_29 lmX5_letterAt lpX5_letterAt ⟨Nat.le_of_ble_eq_true rfl, Nat.le_of_ble_eq_true rfl⟩ ⟨Nat.le_of_ble_eq_true rfl, Nat.le_of_ble_eq_true rfl⟩ rfl ⟨_, (S i hi).2.1⟩ (Nat.le_of_ble_eq_true rfl) (dk rfl) ?_
        rintro _ rfl
        rw [hN.lt hy (by omega)]
        refine callNR_ok (av := [vI y]) (r := [vI (nd + 1)]) X E (s6_partsOf h hyx) lkX6_partsOf mnX5_59 lsX6_partsOf ⟨Nat.le_of_ble_eq_true rfl, Nat.le_of_ble_eq_true rfl⟩ ⟨Nat.le_of_ble_eq_true rfl, Nat.le_of_ble_eq_true rfl⟩ (Nat.le_of_ble_eq_true rfl) (dk rfl) ?_
        rintro _ rfl
        iterate 5 refine fst1_ok X (dk rfl) rfl ?_
        refine br_ok X (dk rfl) rfl (show ((32 : Nat) : Int) + (-28) = ((4 : Nat) : Int) from rfl) (fun _ => ?_) (fun q => absurd trivial q)
        have hpF := pF_le3 hyx
        have e1 : nI (nd + 1) + (nI (pF y) - Int32.ofInt 1) = nI (nd + pF y) := by
          rw [nI_1', ← nI_add, show nI nd + nI 1 + (nI (pF y) - nI 1) = nI nd + nI (pF y) by rw [Int32.add_assoc, Int32.add_comm (nI 1), Int32.sub_add_cancel]]
          exact nI_add _ _
        have f1 : Value.int (nI (nd + 1) + (nI (pF y) - Int32.ofInt 1)) = vI (nd + pF y) := congrArg Value.int e1
        have f2 : Value.int (nI pl + Int32.ofInt 1) = vI (pl + 1) := congrArg Value.int (by rw [nI_1', nI_add])
        refine WS.sel (l' := [(3, vI (pl + 1)), (2, vI (nd + pF y)), (0, .ref (B i)), (1, vI p0)]) [3, 2, 0, 1] (by rw [← f1, ← f2]; rfl) ?_
        exact ih (nd + pF y) (pl + 1) j' hr' hj' (by omega) (by omega) (by omega) _ rfl
  iterate 4 refine fst1_ok X (dk rfl) rfl ?_
  exact loop _ 1 p0 k0 rfl hk rfl (by rw [List.length_drop]; omega) (by omega) _ rfl
set_option maxHeartbeats 4000000 in
theorem s5_endOfN (h : AH) (S : TS B Q h F) {i : Nat} (hi : i < 52) {ns : List Nat} (hN : TN (F i) ns) : CT la D cA B0 pa yX5_endOf cX5_endOf 4 (some .int) (rmD 1 0 0) [.ref (B i), .int (Int32.ofInt (-1))] h (RP (vI 0) h) := by
  refine CT_of (by decide +kernel) (Nat.le_of_ble_eq_true rfl) ?_
  intro p e s m args below meth c X E hr hlk hnm
  have dk : ∀ {pc : Nat} {q : Instr × Nat}, lkd DX5_endOf pc = some q → decode cX5_endOf pc = .ok q := lkd_ok DX5_endOf_ok
  have hL := rmI_le i
  have hlen := (S i hi).1
  rw [hN.len] at hlen
  obtain ⟨-, a2, -⟩ := S i hi
  rw [hN.len] at a2
  iterate 6 refine fst1_ok X (dk rfl) rfl ?_
  refine getf_ok X flX5_21 (dk rfl) a2 rfl ?_
  refine br_ok X (dk rfl) rfl (show ((9 : Nat) : Int) + 26 = ((35 : Nat) : Int) from rfl) (fun q => absurd q (Int32.not_le.mpr (Int32.lt_of_lt_of_le (show Int32.ofInt (-1) < nI 0 by decide +kernel) (nI_le (Nat.zero_le _) (by omega))))) (fun _ => ?_)
  refine fst1_ok X (dk rfl) rfl ?_
  refine br_ok X (dk rfl) rfl (show ((13 : Nat) : Int) + 22 = ((35 : Nat) : Int) from rfl) (fun q => absurd q (by decide)) (fun _ => ?_)
  iterate 3 refine fst1_ok X (dk rfl) rfl ?_
  refine callVR_ok (ci := 7) (T := TX5) (N := 3) (av := [.int (Int32.ofInt (-1))]) (r := [.int (Int32.ofInt 1)]) X E (s5_letterAt h S hi (Int32.ofInt (-1))) lkX5_letterAt mlX5_29 lmX5_letterAt lpX5_letterAt ⟨Nat.le_of_ble_eq_true rfl, Nat.le_of_ble_eq_true rfl⟩ ⟨Nat.le_of_ble_eq_true rfl, Nat.le_of_ble_eq_true rfl⟩ rfl ⟨_, (S i hi).2.1⟩ (Nat.le_of_ble_eq_true rfl) (dk rfl) ?_
  rintro _ rfl
  rw [show ltX (F i).1 (Int32.ofInt (-1)) = (Int8.ofInt (-9)).toInt32 from if_pos (by decide)]
  refine callNR_ok (av := [.int (Int8.ofInt (-9)).toInt32]) (r := [.int (Int32.ofInt 1)]) X E (s6_partsOf9 h) lkX6_partsOf mnX5_59 lsX6_partsOf ⟨Nat.le_of_ble_eq_true rfl, Nat.le_of_ble_eq_true rfl⟩ ⟨Nat.le_of_ble_eq_true rfl, Nat.le_of_ble_eq_true rfl⟩ (Nat.le_of_ble_eq_true rfl) (dk rfl) ?_
  rintro _ rfl
  iterate 5 refine fst1_ok X (dk rfl) rfl ?_
  refine br_ok X (dk rfl) rfl (show ((32 : Nat) : Int) + (-28) = ((4 : Nat) : Int) from rfl) (fun _ => ?_) (fun q => absurd trivial q)
  iterate 2 refine fst1_ok X (dk rfl) rfl ?_
  refine getf_ok X flX5_21 (dk rfl) a2 rfl ?_
  rcases Nat.eq_zero_or_pos ns.length with z | z
  · rw [z]
    refine br_ok X (dk rfl) rfl (show ((9 : Nat) : Int) + 26 = ((35 : Nat) : Int) from rfl) (fun _ => ?_) (fun q => absurd (by decide +kernel) q)
    refine fst1_ok X (dk rfl) rfl ?_
    exact reti_ok X hr hlk rfl (dk rfl) ⟨congrArg (fun x => some (Value.int x)) (by decide +kernel), rfl⟩ (Nat.le_of_ble_eq_true rfl) (Nat.le_of_ble_eq_true rfl)
  · refine br_ok X (dk rfl) rfl (show ((9 : Nat) : Int) + 26 = ((35 : Nat) : Int) from rfl) (fun q => absurd q (by rw [show Int32.ofInt (-1) + Int32.ofInt 1 = nI 0 by decide +kernel]; exact nI_ge z (by omega))) (fun _ => ?_)
    refine fst1_ok X (dk rfl) rfl ?_
    refine br_ok X (dk rfl) rfl (show ((13 : Nat) : Int) + 22 = ((35 : Nat) : Int) from rfl) (fun _ => ?_) (fun q => absurd (by decide) q)
    refine fst1_ok X (dk rfl) rfl ?_
    exact reti_ok X hr hlk rfl (dk rfl) ⟨congrArg (fun x => some (Value.int x)) (by decide +kernel), rfl⟩ (Nat.le_of_ble_eq_true rfl) (Nat.le_of_ble_eq_true rfl)
set_option maxHeartbeats 16000000 in
theorem s5_isLikeAt (h : AH) (S : TS B Q h F) {i : Nat} (hi : i < 52) {ns : List Nat} (hN : TN (F i) ns) {u : Nat} (hu : u < 52) {ms : List Nat} (hM : TN (F u) ms) {p0 k0 p2 : Nat} (hp2 : p2 < 2 ^ 20) (hk : endL 1 (ns.drop p0) = some k0) : CT la D cA B0 pa yX5_isLikeAt cX5_isLikeAt 7 (some .boolean) (rmD 1 0 0) [.ref (B i), vI p0, .ref (B u), vI p2] h (RP (.int (bI (decide ((ns.drop p0).take k0 = (ms.drop p2).take k0)))) h) := by
  refine CT_of (by decide +kernel) (Nat.le_of_ble_eq_true rfl) ?_
  intro p e s m args below meth c X E hr hlk hnm
  have dk : ∀ {pc : Nat} {q : Instr × Nat}, lkd DX5_isLikeAt pc = some q → decode cX5_isLikeAt pc = .ok q := lkd_ok DX5_isLikeAt_ok
  have hL := rmI_le i
  have hL2 := rmI_le u
  have hlen := (S i hi).1
  rw [hN.len] at hlen
  have hlen2 := (S u hu).1
  rw [hM.len] at hlen2
  obtain ⟨-, a2, xs, a3, a4, -⟩ := S i hi
  have hle := endL_le hk
  rw [List.length_drop] at hle
  have loop : ∀ (ys : List Nat) (nd t j : Nat), ns.drop (p0 + t) = ys → endL nd ys = some j → t + j = k0 → nd + ys.length * 4 < 2 ^ 20 → (((ns.drop p0).take k0 = (ms.drop p2).take k0) ↔ (ns.drop (p0 + t)).take j = (ms.drop (p2 + t)).take j) → ∀ l : List (Nat × Value), lsel l [5, 4, 3, 2, 1, 0] = [(5, vI t), (4, vI nd), (3, vI p2), (2, .ref (B u)), (1, vI p0), (0, .ref (B i))] → WR p la e (rmD 1 0 0) s m args below meth c D cA B0 7 (RP (.int (bI (decide ((ns.drop p0).take k0 = (ms.drop p2).take k0)))) h) 6 l [] h 0 0 := by
    intro ys
    induction ys with
    | nil =>
      intro nd t j hd hj htj hb hiff l hl
      cases nd with
      | succ nd => simp [endL] at hj
      | zero =>
        simp only [endL, Option.some.injEq] at hj
        subst hj
        rw [decide_eq_true (hiff.mpr (by rw [List.take_zero, List.take_zero]))]
        refine WS.sel [5, 4, 3, 2, 1, 0] hl ?_
        refine fst1_ok X (dk rfl) rfl ?_
        refine br_ok X (dk rfl) rfl (show ((8 : Nat) : Int) + 63 = ((71 : Nat) : Int) from rfl) (fun _ => ?_) (fun q => absurd (show nI 0 ≤ 0 by decide) q)
        refine fst1_ok X (dk rfl) rfl ?_
        refine br_ok X (dk rfl) rfl (show ((73 : Nat) : Int) + 7 = ((80 : Nat) : Int) from rfl) (fun q => absurd (show nI 0 = 0 by decide) q) (fun _ => ?_)
        refine fst1_ok X (dk rfl) rfl ?_
        refine br_ok X (dk rfl) rfl (show ((77 : Nat) : Int) + 4 = ((81 : Nat) : Int) from rfl) (fun _ => ?_) (fun q => absurd trivial q)
        exact reti_ok X hr hlk (bI_n true) (dk rfl) ⟨rfl, rfl⟩ (Nat.le_of_ble_eq_true rfl) (Nat.le_of_ble_eq_true rfl)
    | cons y r ih =>
      intro nd t j hd hj htj hb hiff l hl
      refine WS.sel [5, 4, 3, 2, 1, 0] hl ?_
      refine fst1_ok X (dk rfl) rfl ?_
      cases nd with
      | zero =>
        simp only [endL, Option.some.injEq] at hj
        subst hj
        rw [decide_eq_true (hiff.mpr (by rw [List.take_zero, List.take_zero]))]
        refine br_ok X (dk rfl) rfl (show ((8 : Nat) : Int) + 63 = ((71 : Nat) : Int) from rfl) (fun _ => ?_) (fun q => absurd (show nI 0 ≤ 0 by decide) q)
        refine fst1_ok X (dk rfl) rfl ?_
        refine br_ok X (dk rfl) rfl (show ((73 : Nat) : Int) + 7 = ((80 : Nat) : Int) from rfl) (fun q => absurd (show nI 0 = 0 by decide) q) (fun _ => ?_)
        refine fst1_ok X (dk rfl) rfl ?_
        refine br_ok X (dk rfl) rfl (show ((77 : Nat) : Int) + 4 = ((81 : Nat) : Int) from rfl) (fun _ => ?_) (fun q => absurd trivial q)
        exact reti_ok X hr hlk (bI_n true) (dk rfl) ⟨rfl, rfl⟩ (Nat.le_of_ble_eq_true rfl) (Nat.le_of_ble_eq_true rfl)
      | succ nd =>
        have hln : (y :: r).length = r.length + 1 := rfl
        rw [hln] at hb
        have hy : ns[p0 + t]? = some y := by
          have := congrArg (fun l : List Nat => l[0]?) hd
          simpa using this
        have hr' : ns.drop (p0 + (t + 1)) = r := by
          have := congrArg List.tail hd
          simpa [Nat.add_assoc] using this
        have hlt := (List.getElem?_eq_some_iff.mp hy).1
        have hyx := (hN.2 y (List.mem_of_getElem? hy)).lt
        refine br_ok X (dk rfl) rfl (show ((8 : Nat) : Int) + 63 = ((71 : Nat) : Int) from rfl) (fun q => absurd q (nI_nle (Nat.succ_pos nd) (by omega))) (fun _ => ?_)
        simp only [endL, Option.map_eq_some_iff] at hj
        obtain ⟨j', hj', rfl⟩ := hj
        iterate 2 refine fst1_ok X (dk rfl) rfl ?_
        refine getf_ok X flX5_15 (dk rfl) a2 rfl ?_
        refine alen7_ok X (dk rfl) a3 a4 ?_
        refine br_ok X (dk rfl) rfl (show ((18 : Nat) : Int) + 53 = ((71 : Nat) : Int) from rfl) (fun q => absurd q (nI_ge (by omega) (by omega))) (fun _ => ?_)
        iterate 4 refine fst1_ok X (dk rfl) rfl ?_
        rw [nI_add]
        refine callVR_ok (ci := 7) (T := TX5) (N := 3) (av := [vI (p0 + t)]) (r := []) X E (s5_letterAt h S hi (nI (p0 + t))) lkX5_letterAt mlX5_29 lmX5_letterAt lpX5_letterAt ⟨Nat.le_of_ble_eq_true rfl, Nat.le_of_ble_eq_true rfl⟩ ⟨Nat.le_of_ble_eq_true rfl, Nat.le_of_ble_eq_true rfl⟩ rfl ⟨_, (S i hi).2.1⟩ (Nat.le_of_ble_eq_true rfl) (dk rfl) ?_
        rintro _ rfl
        rw [hN.lt hy (by omega)]
        iterate 3 refine fst1_ok X (dk rfl) rfl ?_
        refine br_ok X (dk rfl) rfl (show ((35 : Nat) : Int) + 16 = ((51 : Nat) : Int) from rfl) (fun q => absurd q (nI_m9 (by omega))) (fun _ => ?_)
        iterate 5 refine fst1_ok X (dk rfl) rfl ?_
        rw [nI_add]
        refine callVR_ok (ci := 7) (T := TX5) (N := 3) (av := [vI (p2 + t)]) (r := [vI y]) X E (s5_letterAt h S hu (nI (p2 + t))) lkX5_letterAt mlX5_29 lmX5_letterAt lpX5_letterAt ⟨Nat.le_of_ble_eq_true rfl, Nat.le_of_ble_eq_true rfl⟩ ⟨Nat.le_of_ble_eq_true rfl, Nat.le_of_ble_eq_true rfl⟩ rfl ⟨_, (S u hu).2.1⟩ (Nat.le_of_ble_eq_true rfl) (dk rfl) ?_
        rintro _ rfl
        have bad : ¬ ((ns.drop p0).take k0 = (ms.drop p2).take k0) → WR p la e (rmD 1 0 0) s m args below meth c D cA B0 7 (RP (.int (bI (decide ((ns.drop p0).take k0 = (ms.drop p2).take k0)))) h) 51 [(6, vI y), (5, vI t), (4, vI (nd + 1)), (3, vI p2), (2, .ref (B u)), (1, vI p0), (0, .ref (B i))] [] h 0 0 := by
          intro hne
          rw [decide_eq_false hne]
          refine fst1_ok X (dk rfl) rfl ?_
          exact reti_ok X hr hlk (bI_n false) (dk rfl) ⟨rfl, rfl⟩ (Nat.le_of_ble_eq_true rfl) (Nat.le_of_ble_eq_true rfl)
        rcases Nat.lt_or_ge (p2 + t) ms.length with hz | hz
        · obtain ⟨z, hz1⟩ : ∃ z, ms[p2 + t]? = some z := ⟨_, List.getElem?_eq_getElem hz⟩
          have hzx := (hM.2 z (List.mem_of_getElem? hz1)).lt
          rw [hM.lt hz1 (by omega)]
          rw [drop_cons hy, drop_cons hz1, List.take_succ_cons, List.take_succ_cons] at hiff
          by_cases hyz : y = z
          · subst hyz
            refine br_ok X (dk rfl) rfl (show ((48 : Nat) : Int) + 5 = ((53 : Nat) : Int) from rfl) (fun _ => ?_) (fun q => absurd rfl q)
            iterate 2 refine fst1_ok X (dk rfl) rfl ?_
            refine callNR_ok (av := [vI y]) (r := [vI (nd + 1)]) X E (s6_partsOf h hyx) lkX6_partsOf mnX5_59 lsX6_partsOf ⟨Nat.le_of_ble_eq_true rfl, Nat.le_of_ble_eq_true rfl⟩ ⟨Nat.le_of_ble_eq_true rfl, Nat.le_of_ble_eq_true rfl⟩ (Nat.le_of_ble_eq_true rfl) (dk rfl) ?_
            rintro _ rfl
            iterate 5 refine fst1_ok X (dk rfl) rfl ?_
            refine br_ok X (dk rfl) rfl (show ((68 : Nat) : Int) + (-62) = ((6 : Nat) : Int) from rfl) (fun _ => ?_) (fun q => absurd trivial q)
            have hpF := pF_le3 hyx
            have e1 : nI (nd + 1) + (nI (pF y) - Int32.ofInt 1) = nI (nd + pF y) := by
              rw [nI_1', ← nI_add, show nI nd + nI 1 + (nI (pF y) - nI 1) = nI nd + nI (pF y) by rw [Int32.add_assoc, Int32.add_comm (nI 1), Int32.sub_add_cancel]]
              exact nI_add _ _
            have f1 : Value.int (nI (nd + 1) + (nI (pF y) - Int32.ofInt 1)) = vI (nd + pF y) := congrArg Value.int e1
            have f2 : Value.int (nI t + Int32.ofInt 1) = vI (t + 1) := congrArg Value.int (by rw [nI_1', nI_add])
            refine WS.sel (l' := [(5, vI (t + 1)), (4, vI (nd + pF y)), (3, vI p2), (2, .ref (B u)), (1, vI p0), (0, .ref (B i))]) [5, 4, 3, 2, 1, 0] (by rw [← f1, ← f2]; rfl) ?_
            refine ih (nd + pF y) (t + 1) j' hr' hj' (by omega) (by omega) (hiff.trans ?_) _ rfl
            rw [List.cons.injEq]
            simp only [true_and]
            rfl
          · refine br_ok X (dk rfl) rfl (show ((48 : Nat) : Int) + 5 = ((53 : Nat) : Int) from rfl) (fun q => absurd ((nI_eq (by omega) (by omega)).mp q) hyz) (fun _ => ?_)
            exact bad (fun w => hyz (by have := hiff.mp w; rw [List.cons.injEq] at this; exact this.1))
        · rw [hM.out hz (by omega)]
          rw [drop_cons hy, List.drop_eq_nil_of_le hz, List.take_succ_cons, List.take_nil] at hiff
          refine br_ok X (dk rfl) rfl (show ((48 : Nat) : Int) + 5 = ((53 : Nat) : Int) from rfl) (fun q => absurd q (nI_m9 (by omega))) (fun _ => ?_)
          exact bad (fun w => by have := hiff.mp w; cases this)
  iterate 4 refine fst1_ok X (dk rfl) rfl ?_
  exact loop _ 1 0 k0 rfl hk (Nat.zero_add _) (by rw [List.length_drop]; omega) Iff.rfl _ rfl
set_option maxHeartbeats 4000000 in
theorem s5_isLike (h : AH) (S : TS B Q h F) {i : Nat} (hi : i < 52) {ns : List Nat} (hN : TN (F i) ns) {u : Nat} (hu : u < 52) {ms : List Nat} (hM : TN (F u) ms) (h1 : endL 1 ns = some ns.length) (h2 : endL 1 ms = some ms.length) : CT la D cA B0 pa yX5_isLike cX5_isLike 2 (some .boolean) (rmD 2 0 0) [.ref (B i), .ref (B u)] h (RP (.int (bI (decide (ns = ms)))) h) := by
  refine CT_of (by decide +kernel) (Nat.le_of_ble_eq_true rfl) ?_
  intro p e s m args below meth c X E hr hlk hnm
  have dk : ∀ {pc : Nat} {q : Instr × Nat}, lkd DX5_isLike pc = some q → decode cX5_isLike pc = .ok q := lkd_ok DX5_isLike_ok
  iterate 4 refine fst1_ok X (dk rfl) rfl ?_
  refine callVR_ok (ci := 7) (T := TX5) (N := 3) (av := [vI 0, .ref (B u), vI 0]) (r := []) X E (s5_isLikeAt h S hi hN hu hM (p0 := 0) (p2 := 0) (k0 := ns.length) (by decide) (by rw [List.drop_zero]; exact h1)) lkX5_isLikeAt mlX5_68 lmX5_isLikeAt lpX5_isLikeAt ⟨Nat.le_of_ble_eq_true rfl, Nat.le_of_ble_eq_true rfl⟩ ⟨Nat.le_of_ble_eq_true rfl, Nat.le_of_ble_eq_true rfl⟩ rfl ⟨_, (S i hi).2.1⟩ (Nat.le_of_ble_eq_true rfl) (dk rfl) ?_
  rintro _ rfl
  rw [List.drop_zero, List.drop_zero, List.take_length]
  have e : decide (ns = ms.take ns.length) = decide (ns = ms) := decide_eq_decide.mpr ⟨fun z => ?_, fun z => by rw [z, List.take_length]⟩
  · rw [e]
    exact reti_ok X hr hlk (bI_n _) (dk rfl) ⟨rfl, rfl⟩ (Nat.le_of_ble_eq_true rfl) (Nat.le_of_ble_eq_true rfl)
  · have h3 := endL_take ms 1 ms.length h2
    have h4 := endL_app (ms.take ns.length) (ms.drop ns.length) 1 ns.length (by rw [← z]; exact h1)
    rw [List.take_append_drop, h2] at h4
    have h5 : ms.length = ns.length := Option.some.inj h4
    rw [z, ← h5, List.take_length]
end S04
