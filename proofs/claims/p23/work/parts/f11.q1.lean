/-! the class's questions, exactly (printed by wip/q/genQ1.py) -/
/-- the first number at which something holds -/
def fsF (p : Nat → Bool) : Nat → Nat → Option Nat
  | 0, _ => none
  | n + 1, k => if p k = true then some k else fsF p n (k + 1)
theorem fsF_some {p : Nat → Bool} : ∀ (n k j : Nat), j < n → (∀ i, i < j → p (k + i) = false) → p (k + j) = true → fsF p n k = some (k + j)
  | 0, _, _, h, _, _ => absurd h (Nat.not_lt_zero _)
  | n + 1, k, 0, _, _, h => if_pos h
  | n + 1, k, j + 1, hj, h0, h => by
    unfold fsF
    have e0 := h0 0 (by omega)
    rw [Nat.add_zero] at e0
    rw [if_neg (by rw [e0]; decide), fsF_some n (k + 1) j (by omega) (fun i hi => by rw [show k + 1 + i = k + (i + 1) by omega]; exact h0 (i + 1) (by omega)) (by rw [show k + 1 + j = k + (j + 1) by omega]; exact h)]
    congr 1
    omega
theorem fsF_none {p : Nat → Bool} : ∀ (n k : Nat), (∀ i, i < n → p (k + i) = false) → fsF p n k = none
  | 0, _, _ => rfl
  | n + 1, k, h => by
    unfold fsF
    have e0 := h 0 (by omega)
    rw [Nat.add_zero] at e0
    rw [if_neg (by rw [e0]; decide), fsF_none n (k + 1) (fun i hi => by rw [show k + 1 + i = k + (i + 1) by omega]; exact h (i + 1) (by omega))]
theorem fsF_at {p : Nat → Bool} {n j : Nat} (hj : j < n) (h0 : ∀ i, i < j → p i = false) (h : p j = true) : fsF p n 0 = some j := by
  have := fsF_some (p := p) n 0 j hj (fun i hi => by rw [Nat.zero_add]; exact h0 i hi) (by rw [Nat.zero_add]; exact h)
  rwa [Nat.zero_add] at this
theorem fsF_no {p : Nat → Bool} {n : Nat} (h : ∀ i, i < n → p i = false) : fsF p n 0 = none := fsF_none n 0 (fun i hi => by rw [Nat.zero_add]; exact h i hi)
def fdN (xs ms : List Nat) : Option Nat := fsF (fun p => decide (sub' xs p = ms)) xs.length 0
def ulN (r1 r2 : List (List Nat)) : Option Nat := fsF (fun k => decide (r1.getD k [] ≠ r2.getD k [])) 8 0
theorem sub_self {ns : List Nat} (h : TW ns) : sub' ns 0 = ns := by
  unfold sub' tl
  rw [List.drop_zero, h.1]
  exact List.take_length
theorem diffAt_some : ∀ {xs ys : List Nat} {k : Nat}, (∀ q, q < k → xs[q]? = ys[q]?) → xs[k]? ≠ ys[k]? → diffAt xs ys = some k
  | [], [], k, _, h => absurd (by simp) h
  | [], y :: ys, 0, _, _ => rfl
  | [], y :: ys, k + 1, h0, _ => by have := h0 0 (by omega); simp at this
  | x :: xs, [], 0, _, _ => rfl
  | x :: xs, [], k + 1, h0, _ => by have := h0 0 (by omega); simp at this
  | x :: xs, y :: ys, 0, _, h => by
    unfold diffAt
    rw [if_neg (fun z => h (by rw [z]; rfl))]
  | x :: xs, y :: ys, k + 1, h0, h => by
    have e := h0 0 (by omega)
    simp only [List.getElem?_cons_zero, Option.some.injEq] at e
    unfold diffAt
    rw [if_pos e, diffAt_some (xs := xs) (ys := ys) (k := k) (fun q hq => by have := h0 (q + 1) (by omega); rwa [List.getElem?_cons_succ, List.getElem?_cons_succ] at this) (by rwa [List.getElem?_cons_succ, List.getElem?_cons_succ] at h)]
    rfl
theorem ltX_at (ns : List Nat) {k : Nat} (hk : k < 2 ^ 20) : ltX (ns.map nI) (nI k) = match ns[k]? with | some x => nI x | none => m9 := by
  unfold ltX
  rw [if_neg (nI_pos (by omega)), nI_clamp (by omega), List.getElem?_map]
  cases ns[k]? <;> rfl
theorem ltX_eq {ns ms : List Nat} (hn : ∀ x ∈ ns, okL x) (hm : ∀ x ∈ ms, okL x) {k : Nat} (hk : k < 2 ^ 20) : ltX (ns.map nI) (nI k) = ltX (ms.map nI) (nI k) ↔ ns[k]? = ms[k]? := by
  rw [ltX_at ns hk, ltX_at ms hk]
  cases e1 : ns[k]? with
  | none =>
    cases e2 : ms[k]? with
    | none => exact ⟨fun _ => rfl, fun _ => rfl⟩
    | some y =>
      have := (hm y (List.mem_of_getElem? e2)).lt
      exact ⟨fun z => absurd z.symm (nI_m9 (by omega)), fun z => by cases z⟩
  | some x =>
    have hx := (hn x (List.mem_of_getElem? e1)).lt
    cases e2 : ms[k]? with
    | none => exact ⟨fun z => absurd z (nI_m9 (by omega)), fun z => by cases z⟩
    | some y =>
      have hy := (hm y (List.mem_of_getElem? e2)).lt
      exact ⟨fun z => by rw [nI_inj (by omega) (by omega) z], fun z => by cases z; rfl⟩
/-- how many steps there are, and how they end -/
def stN (one other : List Nat) : Nat × Nat := match goF 40 one other none8 0 0 with
  | some G => (G.2.1, G.2.2.1)
  | none => (0, 0)
theorem stN_of {one other : List Nat} {G : GS} (h : goF 40 one other none8 0 0 = some G) : stN one other = (G.2.1, G.2.2.1) := by
  unfold stN
  rw [h]
def aLetter (x1 x2 : Int32) (st : ST) : RS := if okI 6 x1 then ((0, ltX ((st.1.getD (xI x1) []).map nI) x2), st) else ((1, 0), st)
def aSizeAt (x1 x2 : Int32) (st : ST) : RS := if okI 6 x1 then (if okI (st.1.getD (xI x1) []).length x2 then ((0, nI (tl (st.1.getD (xI x1) []) (xI x2))), st) else ((0, m9), st)) else ((1, 0), st)
def aCount (x1 x2 : Int32) (st : ST) : RS := if okI 6 x1 then (if okI 8 x2 then ((0, nI (oftenN (st.1.getD (xI x1) []) (xI x2))), st) else ((2, 0), st)) else ((1, 0), st)
def aNames (x1 : Int32) (st : ST) : RS := if okI 6 x1 then ((0, nI (namesN (st.1.getD (xI x1) []))), st) else ((1, 0), st)
def aFind (x1 x2 : Int32) (st : ST) : RS := if okI 6 x1 then (if okI 6 x2 then ((0, pI (fdN (st.1.getD (xI x1) []) (st.1.getD (xI x2) []))), st) else ((1, 0), st)) else ((1, 0), st)
def aDiffer (x1 x2 : Int32) (st : ST) : RS := if okI 6 x1 then (if okI 6 x2 then ((0, pI (diffAt (st.1.getD (xI x1) []) (st.1.getD (xI x2) []))), st) else ((1, 0), st)) else ((1, 0), st)
def aSteps (x1 x2 : Int32) (st : ST) : RS := if okI 6 x1 then (if okI 6 x2 then ((0, nI (stN (st.1.getD (xI x1) []) (st.1.getD (xI x2) [])).1), st) else ((1, 0), st)) else ((1, 0), st)
def aWhy (x1 x2 : Int32) (st : ST) : RS := if okI 6 x1 then (if okI 6 x2 then ((0, nI (stN (st.1.getD (xI x1) []) (st.1.getD (xI x2) [])).2), st) else ((1, 0), st)) else ((1, 0), st)
def aMoved (x1 : Int32) (st : ST) : RS := if okI 3 x1 then ((0, nI (movedN (st.2.1.getD (xI x1) []) 8)), st) else ((1, 0), st)
def aUnlike (x1 x2 : Int32) (st : ST) : RS := if okI 3 x1 then (if okI 3 x2 then ((0, pI (ulN (st.2.1.getD (xI x1) []) (st.2.1.getD (xI x2) []))), st) else ((1, 0), st)) else ((1, 0), st)
section Q11
variable {la : Launch} {D : va_G} {cA : Nat → ClassId} {B0 pa : Nat} {B Q P : Nat → Nat} {ox : Nat} {kn d r : Int32} {F : Nat → TC}
set_option maxHeartbeats 8000000 in
theorem s6_letter (h : AH) (hl : la.stackTraces = false) (Y : LYO B Q) {st : ST} (C0 : StC B Q P ox kn h st) (x1 x2 : Int32) : CTX la D cA B0 pa yX6_letter cX6_letter 3 (some .int) (rmD 7 1 6) [.ref ox, .int x1, .int x2] h (AP B Q P ox kn (aLetter x1 x2 st) h) (AX (aLetter x1 x2 st) st h) := by
  refine CTX_of (by decide +kernel) (Nat.le_of_ble_eq_true rfl) ?_
  intro p e s m args below meth c X E hr hlk hnm ht
  have dk : ∀ {pc : Nat} {q : Instr × Nat}, lkd DX6_letter pc = some q → decode cX6_letter pc = .ok q := lkd_ok DX6_letter_ok
  obtain ⟨F, C, H, O⟩ := id C0
  iterate 2 refine fst1_ok X (dk rfl) rfl ?_
  refine callVX_ok (ci := 8) (T := TX6) (N := 14) (av := [.int x1]) (r := []) X E ht hlk (s6_termOf h hl C x1) (fun E1 h1 z => AX.one (by unfold aLetter; rw [if_neg (by rw [okI_f z.2.1]; decide)]) ⟨z.1, z.2.2⟩) lkX6_termOf mlX6_69 lmX6_termOf lpX6_termOf ⟨Nat.le_of_ble_eq_true rfl, Nat.le_of_ble_eq_true rfl⟩ ⟨Nat.le_of_ble_eq_true rfl, Nat.le_of_ble_eq_true rfl⟩ rfl C.2.1 (Nat.le_of_ble_eq_true rfl) (dk rfl) ?_
  rintro _ h1 ⟨⟨j, hj, rfl, rfl⟩, eh⟩
  obtain rfl := eh.symm
  obtain ⟨nj, sj, ej, tj, wj, lj⟩ := H.slot O hj
  refine fst1_ok X (dk rfl) rfl ?_
  refine callVR_ok (ci := 7) (T := TX5) (N := 3) (av := [.int x2]) (r := []) X E (s5_letterAt _ C.1 (i := j) (by omega) x2) lkX5_letterAt mlX6_132 lmX5_letterAt lpX5_letterAt ⟨Nat.le_of_ble_eq_true rfl, Nat.le_of_ble_eq_true rfl⟩ ⟨Nat.le_of_ble_eq_true rfl, Nat.le_of_ble_eq_true rfl⟩ rfl ⟨_, (C.1 j (by omega)).2.1⟩ (Nat.le_of_ble_eq_true rfl) (dk rfl) ?_
  rintro _ rfl
  rw [tj.1]
  have e : aLetter (nI j) x2 st = ((0, ltX (nj.map nI) x2), st) := by
    unfold aLetter
    rw [if_pos (okI_t hj (by decide)), xI_n (by omega), getD_of sj]
  rw [e]
  refine WRX.ret ?_
  exact reti_ok X hr hlk rfl (dk rfl) (⟨rfl, rfl, ⟨F, C, H, O⟩, FrC.rf _⟩) (Nat.le_of_ble_eq_true rfl) (Nat.le_of_ble_eq_true rfl)
set_option maxHeartbeats 8000000 in
theorem s6_sizeAt (h : AH) (hl : la.stackTraces = false) (Y : LYO B Q) {st : ST} (C0 : StC B Q P ox kn h st) (x1 x2 : Int32) : CTX la D cA B0 pa yX6_sizeAt cX6_sizeAt 4 (some .int) (rmD 7 1 6) [.ref ox, .int x1, .int x2] h (AP B Q P ox kn (aSizeAt x1 x2 st) h) (AX (aSizeAt x1 x2 st) st h) := by
  refine CTX_of (by decide +kernel) (Nat.le_of_ble_eq_true rfl) ?_
  intro p e s m args below meth c X E hr hlk hnm ht
  have dk : ∀ {pc : Nat} {q : Instr × Nat}, lkd DX6_sizeAt pc = some q → decode cX6_sizeAt pc = .ok q := lkd_ok DX6_sizeAt_ok
  obtain ⟨F, C, H, O⟩ := id C0
  iterate 2 refine fst1_ok X (dk rfl) rfl ?_
  refine callVX_ok (ci := 8) (T := TX6) (N := 14) (av := [.int x1]) (r := []) X E ht hlk (s6_termOf h hl C x1) (fun E1 h1 z => AX.one (by unfold aSizeAt; rw [if_neg (by rw [okI_f z.2.1]; decide)]) ⟨z.1, z.2.2⟩) lkX6_termOf mlX6_69 lmX6_termOf lpX6_termOf ⟨Nat.le_of_ble_eq_true rfl, Nat.le_of_ble_eq_true rfl⟩ ⟨Nat.le_of_ble_eq_true rfl, Nat.le_of_ble_eq_true rfl⟩ rfl C.2.1 (Nat.le_of_ble_eq_true rfl) (dk rfl) ?_
  rintro _ h1 ⟨⟨j, hj, rfl, rfl⟩, eh⟩
  obtain rfl := eh.symm
  obtain ⟨nj, sj, ej, tj, wj, lj⟩ := H.slot O hj
  iterate 3 refine fst1_ok X (dk rfl) rfl ?_
  refine callVR_ok (ci := 7) (T := TX5) (N := 3) (av := [.int x2]) (r := []) X E (s5_hasPlace _ C.1 (i := j) (by omega) x2) lkX5_hasPlace mlX6_115 lmX5_hasPlace lpX5_hasPlace ⟨Nat.le_of_ble_eq_true rfl, Nat.le_of_ble_eq_true rfl⟩ ⟨Nat.le_of_ble_eq_true rfl, Nat.le_of_ble_eq_true rfl⟩ rfl ⟨_, (C.1 j (by omega)).2.1⟩ (Nat.le_of_ble_eq_true rfl) (dk rfl) ?_
  rintro _ rfl
  rw [tj.len, ← okI_lt]
  cases hp : okI nj.length x2 with
  | false =>
    refine br_ok X (dk rfl) rfl (show ((11 : Nat) : Int) + 13 = ((24 : Nat) : Int) from rfl) (fun _ => ?_) (fun q => absurd bI_f' q)
    refine fst1_ok X (dk rfl) rfl ?_
    have e : aSizeAt (nI j) x2 st = ((0, m9), st) := by
      unfold aSizeAt
      rw [if_pos (okI_t hj (by decide)), xI_n (by omega), getD_of sj, if_neg (by rw [hp]; decide)]
    rw [e]
    refine WRX.ret ?_
    exact reti_ok X hr hlk rfl (dk rfl) (⟨rfl, rfl, ⟨F, C, H, O⟩, FrC.rf _⟩) (Nat.le_of_ble_eq_true rfl) (Nat.le_of_ble_eq_true rfl)
  | true =>
    refine br_ok X (dk rfl) rfl (show ((11 : Nat) : Int) + 13 = ((24 : Nat) : Int) from rfl) (fun q => absurd q bI_t) (fun _ => ?_)
    obtain ⟨p, hp1, hp2, rfl⟩ := okI_ex hp
    obtain ⟨k1, k2, k3, k4⟩ := subTW wj hp1
    iterate 2 refine fst1_ok X (dk rfl) rfl ?_
    refine callVR_ok (ci := 7) (T := TX5) (N := 3) (av := [vI p]) (r := []) X E (s5_endOf _ C.1 (i := j) (by omega) tj k1) lkX5_endOf mlX6_122 lmX5_endOf lpX5_endOf ⟨Nat.le_of_ble_eq_true rfl, Nat.le_of_ble_eq_true rfl⟩ ⟨Nat.le_of_ble_eq_true rfl, Nat.le_of_ble_eq_true rfl⟩ rfl ⟨_, (C.1 j (by omega)).2.1⟩ (Nat.le_of_ble_eq_true rfl) (dk rfl) ?_
    rintro _ rfl
    iterate 2 refine fst1_ok X (dk rfl) rfl ?_
    rw [nI_sub (by omega), Nat.add_sub_cancel_left]
    refine br_ok X (dk rfl) rfl (show ((21 : Nat) : Int) + 5 = ((26 : Nat) : Int) from rfl) (fun _ => ?_) (fun q => absurd trivial q)
    have e : aSizeAt (nI j) (nI p) st = ((0, nI (tl nj p)), st) := by
      unfold aSizeAt
      rw [if_pos (okI_t hj (by decide)), xI_n (by omega), xI_n (by omega), getD_of sj, if_pos hp]
    rw [e]
    refine WRX.ret ?_
    exact reti_ok X hr hlk rfl (dk rfl) (⟨rfl, rfl, ⟨F, C, H, O⟩, FrC.rf _⟩) (Nat.le_of_ble_eq_true rfl) (Nat.le_of_ble_eq_true rfl)
set_option maxHeartbeats 8000000 in
theorem s6_count (h : AH) (hl : la.stackTraces = false) (Y : LYO B Q) {st : ST} (C0 : StC B Q P ox kn h st) (x1 x2 : Int32) : CTX la D cA B0 pa yX6_count cX6_count 4 (some .int) (rmD 7 2 12) [.ref ox, .int x1, .int x2] h (AP B Q P ox kn (aCount x1 x2 st) h) (AX (aCount x1 x2 st) st h) := by
  refine CTX_of (by decide +kernel) (Nat.le_of_ble_eq_true rfl) ?_
  intro p e s m args below meth c X E hr hlk hnm ht
  have dk : ∀ {pc : Nat} {q : Instr × Nat}, lkd DX6_count pc = some q → decode cX6_count pc = .ok q := lkd_ok DX6_count_ok
  obtain ⟨F, C, H, O⟩ := id C0
  iterate 2 refine fst1_ok X (dk rfl) rfl ?_
  refine callVX_ok (ci := 8) (T := TX6) (N := 14) (av := [.int x1]) (r := []) X E ht hlk (s6_termOf h hl C x1) (fun E1 h1 z => AX.one (by unfold aCount; rw [if_neg (by rw [okI_f z.2.1]; decide)]) ⟨z.1, z.2.2⟩) lkX6_termOf mlX6_69 lmX6_termOf lpX6_termOf ⟨Nat.le_of_ble_eq_true rfl, Nat.le_of_ble_eq_true rfl⟩ ⟨Nat.le_of_ble_eq_true rfl, Nat.le_of_ble_eq_true rfl⟩ rfl C.2.1 (Nat.le_of_ble_eq_true rfl) (dk rfl) ?_
  rintro _ h1 ⟨⟨j, hj, rfl, rfl⟩, eh⟩
  obtain rfl := eh.symm
  iterate 2 refine fst1_ok X (dk rfl) rfl ?_
  refine callSX_ok (av := [.int x2]) (r := []) X E ht hlk (s6_needName _ hl x2) (fun E1 h1 z => AX.two (by unfold aCount; rw [if_pos (okI_t hj (by decide))]; rw [if_neg (by rw [okI_f z.2.1]; decide)]) ⟨z.1, z.2.2⟩) lkX6_needName mlX6_73 lsX6_needName ⟨Nat.le_of_ble_eq_true rfl, Nat.le_of_ble_eq_true rfl⟩ ⟨Nat.le_of_ble_eq_true rfl, Nat.le_of_ble_eq_true rfl⟩ (Nat.le_of_ble_eq_true rfl) (dk rfl) ?_
  rintro _ h1 ⟨⟨i, hi, rfl, rfl⟩, eh⟩
  obtain rfl := eh.symm
  obtain ⟨nj, sj, ej, tj, wj, lj⟩ := H.slot O hj
  iterate 2 refine fst1_ok X (dk rfl) rfl ?_
  refine callVR_ok (ci := 7) (T := TX5) (N := 3) (av := [vI i]) (r := []) X E (s5_placesOf _ C.1 (i := j) (by omega) tj (x := i) (by omega)) lkX5_placesOf mlX6_129 lmX5_placesOf lpX5_placesOf ⟨Nat.le_of_ble_eq_true rfl, Nat.le_of_ble_eq_true rfl⟩ ⟨Nat.le_of_ble_eq_true rfl, Nat.le_of_ble_eq_true rfl⟩ rfl ⟨_, (C.1 j (by omega)).2.1⟩ (Nat.le_of_ble_eq_true rfl) (dk rfl) ?_
  rintro _ rfl
  have e : aCount (nI j) (nI i) st = ((0, nI (oftenN nj i)), st) := by
    unfold aCount
    rw [if_pos (okI_t hj (by decide)), if_pos (okI_t hi (by decide)), xI_n (by omega), xI_n (by omega), getD_of sj]
  rw [e]
  refine WRX.ret ?_
  exact reti_ok X hr hlk rfl (dk rfl) (⟨rfl, rfl, ⟨F, C, H, O⟩, FrC.rf _⟩) (Nat.le_of_ble_eq_true rfl) (Nat.le_of_ble_eq_true rfl)
set_option maxHeartbeats 8000000 in
theorem s6_names (h : AH) (hl : la.stackTraces = false) (Y : LYO B Q) {st : ST} (C0 : StC B Q P ox kn h st) (x1 : Int32) : CTX la D cA B0 pa yX6_names cX6_names 2 (some .int) (rmD 7 1 6) [.ref ox, .int x1] h (AP B Q P ox kn (aNames x1 st) h) (AX (aNames x1 st) st h) := by
  refine CTX_of (by decide +kernel) (Nat.le_of_ble_eq_true rfl) ?_
  intro p e s m args below meth c X E hr hlk hnm ht
  have dk : ∀ {pc : Nat} {q : Instr × Nat}, lkd DX6_names pc = some q → decode cX6_names pc = .ok q := lkd_ok DX6_names_ok
  obtain ⟨F, C, H, O⟩ := id C0
  iterate 2 refine fst1_ok X (dk rfl) rfl ?_
  refine callVX_ok (ci := 8) (T := TX6) (N := 14) (av := [.int x1]) (r := []) X E ht hlk (s6_termOf h hl C x1) (fun E1 h1 z => AX.one (by unfold aNames; rw [if_neg (by rw [okI_f z.2.1]; decide)]) ⟨z.1, z.2.2⟩) lkX6_termOf mlX6_69 lmX6_termOf lpX6_termOf ⟨Nat.le_of_ble_eq_true rfl, Nat.le_of_ble_eq_true rfl⟩ ⟨Nat.le_of_ble_eq_true rfl, Nat.le_of_ble_eq_true rfl⟩ rfl C.2.1 (Nat.le_of_ble_eq_true rfl) (dk rfl) ?_
  rintro _ h1 ⟨⟨j, hj, rfl, rfl⟩, eh⟩
  obtain rfl := eh.symm
  obtain ⟨nj, sj, ej, tj, wj, lj⟩ := H.slot O hj
  refine callVR_ok (ci := 7) (T := TX5) (N := 3) (av := []) (r := []) X E (s5_allNames _ C.1 (i := j) (by omega) tj) lkX5_allNames mlX6_140 lmX5_allNames lpX5_allNames ⟨Nat.le_of_ble_eq_true rfl, Nat.le_of_ble_eq_true rfl⟩ ⟨Nat.le_of_ble_eq_true rfl, Nat.le_of_ble_eq_true rfl⟩ rfl ⟨_, (C.1 j (by omega)).2.1⟩ (Nat.le_of_ble_eq_true rfl) (dk rfl) ?_
  rintro _ rfl
  have e : aNames (nI j) st = ((0, nI (namesN nj)), st) := by
    unfold aNames
    rw [if_pos (okI_t hj (by decide)), xI_n (by omega), getD_of sj]
  rw [e]
  refine WRX.ret ?_
  exact reti_ok X hr hlk rfl (dk rfl) (⟨rfl, rfl, ⟨F, C, H, O⟩, FrC.rf _⟩) (Nat.le_of_ble_eq_true rfl) (Nat.le_of_ble_eq_true rfl)
set_option maxHeartbeats 8000000 in
theorem s6_moved (h : AH) (hl : la.stackTraces = false) (Y : LYO B Q) {st : ST} (C0 : StC B Q P ox kn h st) (x1 : Int32) : CTX la D cA B0 pa yX6_moved cX6_moved 2 (some .int) (rmD 7 1 6) [.ref ox, .int x1] h (AP B Q P ox kn (aMoved x1 st) h) (AX (aMoved x1 st) st h) := by
  refine CTX_of (by decide +kernel) (Nat.le_of_ble_eq_true rfl) ?_
  intro p e s m args below meth c X E hr hlk hnm ht
  have dk : ∀ {pc : Nat} {q : Instr × Nat}, lkd DX6_moved pc = some q → decode cX6_moved pc = .ok q := lkd_ok DX6_moved_ok
  obtain ⟨F, C, H, O⟩ := id C0
  iterate 2 refine fst1_ok X (dk rfl) rfl ?_
  refine callVX_ok (ci := 8) (T := TX6) (N := 14) (av := [.int x1]) (r := []) X E ht hlk (s6_answerOf h hl C x1) (fun E1 h1 z => AX.one (by unfold aMoved; rw [if_neg (by rw [okI_f z.2.1]; decide)]) ⟨z.1, z.2.2⟩) lkX6_answerOf mlX6_151 lmX6_answerOf lpX6_answerOf ⟨Nat.le_of_ble_eq_true rfl, Nat.le_of_ble_eq_true rfl⟩ ⟨Nat.le_of_ble_eq_true rfl, Nat.le_of_ble_eq_true rfl⟩ rfl C.2.1 (Nat.le_of_ble_eq_true rfl) (dk rfl) ?_
  rintro _ h1 ⟨⟨k, hk, rfl, rfl⟩, eh⟩
  obtain rfl := eh.symm
  obtain ⟨rows, sk, rk⟩ := H.2 k hk
  have ok := C.2.2.1.2.2.1 k hk
  refine callVR_ok (ci := 2) (T := TX0) (N := 1) (av := []) (r := []) X E (s0_movedNames _ C.1 ok rk) lkX0_movedNames mlX6_219 lmX0_movedNames lpX0_movedNames ⟨Nat.le_of_ble_eq_true rfl, Nat.le_of_ble_eq_true rfl⟩ ⟨Nat.le_of_ble_eq_true rfl, Nat.le_of_ble_eq_true rfl⟩ rfl ⟨_, ok.2.choose_spec.1⟩ (Nat.le_of_ble_eq_true rfl) (dk rfl) ?_
  rintro _ rfl
  have e : aMoved (nI k) st = ((0, nI (movedN rows 8)), st) := by
    unfold aMoved
    rw [if_pos (okI_t hk (by decide)), xI_n (by omega), getD_of sk]
  rw [e]
  refine WRX.ret ?_
  exact reti_ok X hr hlk rfl (dk rfl) (⟨rfl, rfl, ⟨F, C, H, O⟩, FrC.rf _⟩) (Nat.le_of_ble_eq_true rfl) (Nat.le_of_ble_eq_true rfl)
set_option maxHeartbeats 16000000 in
theorem s6_steps (h : AH) (hl : la.stackTraces = false) (Y : LYO B Q) {st : ST} (C0 : StC B Q P ox kn h st) (x1 x2 : Int32) : CTX la D cA B0 pa yX6_steps cX6_steps 5 (some .int) (rmD 7 2 12) [.ref ox, .int x1, .int x2] h (AP B Q P ox kn (aSteps x1 x2 st) h) (AX (aSteps x1 x2 st) st h) := by
  refine CTX_of (by decide +kernel) (Nat.le_of_ble_eq_true rfl) ?_
  intro p e s m args below meth c X E hr hlk hnm ht
  have dk : ∀ {pc : Nat} {q : Instr × Nat}, lkd DX6_steps pc = some q → decode cX6_steps pc = .ok q := lkd_ok DX6_steps_ok
  obtain ⟨F, C, H, O⟩ := id C0
  iterate 2 refine fst1_ok X (dk rfl) rfl ?_
  refine callVX_ok (ci := 8) (T := TX6) (N := 14) (av := [.int x1]) (r := []) X E ht hlk (s6_termOf h hl C x1) (fun E1 h1 z => AX.one (by unfold aSteps; rw [if_neg (by rw [okI_f z.2.1]; decide)]) ⟨z.1, z.2.2⟩) lkX6_termOf mlX6_69 lmX6_termOf lpX6_termOf ⟨Nat.le_of_ble_eq_true rfl, Nat.le_of_ble_eq_true rfl⟩ ⟨Nat.le_of_ble_eq_true rfl, Nat.le_of_ble_eq_true rfl⟩ rfl C.2.1 (Nat.le_of_ble_eq_true rfl) (dk rfl) ?_
  rintro _ h1 ⟨⟨j, hj, rfl, rfl⟩, eh⟩
  obtain rfl := eh.symm
  iterate 3 refine fst1_ok X (dk rfl) rfl ?_
  refine callVX_ok (ci := 8) (T := TX6) (N := 14) (av := [.int x2]) (r := []) X E ht hlk (s6_termOf _ hl C x2) (fun E1 h1 z => AX.one (by unfold aSteps; rw [if_pos (okI_t hj (by decide))]; rw [if_neg (by rw [okI_f z.2.1]; decide)]) ⟨z.1, z.2.2⟩) lkX6_termOf mlX6_69 lmX6_termOf lpX6_termOf ⟨Nat.le_of_ble_eq_true rfl, Nat.le_of_ble_eq_true rfl⟩ ⟨Nat.le_of_ble_eq_true rfl, Nat.le_of_ble_eq_true rfl⟩ rfl C.2.1 (Nat.le_of_ble_eq_true rfl) (dk rfl) ?_
  rintro _ h1 ⟨⟨i, hi, rfl, rfl⟩, eh⟩
  obtain rfl := eh.symm
  obtain ⟨nj, sj, ej, tj, wj, lj⟩ := H.slot O hj
  obtain ⟨ni, si, ei, ti, wi, li⟩ := H.slot O hi
  have t1 : TW nj ∧ nj.length ≤ 16 := ⟨wj, lj⟩
  have t2 : TW ni ∧ ni.length ≤ 16 := ⟨wi, li⟩
  obtain ⟨Gs, Sx, q1, q2, q3, q4, q5, q6, q7⟩ := runM_ok t1 t2
  iterate 2 refine fst1_ok X (dk rfl) rfl ?_
  refine getf_ok X flX6_48 (dk rfl) C.2.1 rfl ?_
  iterate 2 refine fst1_ok X (dk rfl) rfl ?_
  refine callV_ok (ci := 6) (T := TX4) (N := 5) (av := [.ref (B j), .ref (B i)]) (r := []) X E (s4_makeAlike _ Y C (i1 := j) (by omega) (by omega) (i2 := i) (by omega) (by omega) tj ti t1 t2 q7 q5 q2.1) lkX4_makeAlike mlX6_185 lmX4_makeAlike lpX4_makeAlike ⟨Nat.le_of_ble_eq_true rfl, Nat.le_of_ble_eq_true rfl⟩ ⟨Nat.le_of_ble_eq_true rfl, Nat.le_of_ble_eq_true rfl⟩ rfl C.2.2.2.1.choose_spec.choose_spec (Nat.le_of_ble_eq_true rfl) (dk rfl) ?_
  rintro _ h2 ⟨rfl, f2, F2, ps, C2, eF, T2⟩
  have H2 : FS F2 st := H.cg (fun n hn => eF n (by omega))
  iterate 2 refine fst1_ok X (dk rfl) rfl ?_
  refine getf_ok X flX6_48 (dk rfl) C2.2.1 rfl ?_
  refine callVR_ok (ci := 6) (T := TX4) (N := 5) (av := []) (r := []) X E (s4_stepsTaken h2 T2) lkX4_stepsTaken mlX6_213 lmX4_stepsTaken lpX4_stepsTaken ⟨Nat.le_of_ble_eq_true rfl, Nat.le_of_ble_eq_true rfl⟩ ⟨Nat.le_of_ble_eq_true rfl, Nat.le_of_ble_eq_true rfl⟩ rfl ⟨_, T2.2.2.1⟩ (Nat.le_of_ble_eq_true rfl) (dk rfl) ?_
  rintro _ rfl
  have e : aSteps (nI j) (nI i) st = ((0, nI Gs.2.1), st) := by
    unfold aSteps
    rw [if_pos (okI_t hj (by decide)), if_pos (okI_t hi (by decide)), xI_n (by omega), xI_n (by omega), getD_of sj, getD_of si, stN_of q1]
  rw [e]
  refine WRX.ret ?_
  exact reti_ok X hr hlk rfl (dk rfl) (⟨rfl, rfl, ⟨F2, C2, H2, O⟩, f2⟩) (Nat.le_of_ble_eq_true rfl) (Nat.le_of_ble_eq_true rfl)
set_option maxHeartbeats 16000000 in
theorem s6_why (h : AH) (hl : la.stackTraces = false) (Y : LYO B Q) {st : ST} (C0 : StC B Q P ox kn h st) (x1 x2 : Int32) : CTX la D cA B0 pa yX6_why cX6_why 5 (some .int) (rmD 7 2 12) [.ref ox, .int x1, .int x2] h (AP B Q P ox kn (aWhy x1 x2 st) h) (AX (aWhy x1 x2 st) st h) := by
  refine CTX_of (by decide +kernel) (Nat.le_of_ble_eq_true rfl) ?_
  intro p e s m args below meth c X E hr hlk hnm ht
  have dk : ∀ {pc : Nat} {q : Instr × Nat}, lkd DX6_why pc = some q → decode cX6_why pc = .ok q := lkd_ok DX6_why_ok
  obtain ⟨F, C, H, O⟩ := id C0
  iterate 2 refine fst1_ok X (dk rfl) rfl ?_
  refine callVX_ok (ci := 8) (T := TX6) (N := 14) (av := [.int x1]) (r := []) X E ht hlk (s6_termOf h hl C x1) (fun E1 h1 z => AX.one (by unfold aWhy; rw [if_neg (by rw [okI_f z.2.1]; decide)]) ⟨z.1, z.2.2⟩) lkX6_termOf mlX6_69 lmX6_termOf lpX6_termOf ⟨Nat.le_of_ble_eq_true rfl, Nat.le_of_ble_eq_true rfl⟩ ⟨Nat.le_of_ble_eq_true rfl, Nat.le_of_ble_eq_true rfl⟩ rfl C.2.1 (Nat.le_of_ble_eq_true rfl) (dk rfl) ?_
  rintro _ h1 ⟨⟨j, hj, rfl, rfl⟩, eh⟩
  obtain rfl := eh.symm
  iterate 3 refine fst1_ok X (dk rfl) rfl ?_
  refine callVX_ok (ci := 8) (T := TX6) (N := 14) (av := [.int x2]) (r := []) X E ht hlk (s6_termOf _ hl C x2) (fun E1 h1 z => AX.one (by unfold aWhy; rw [if_pos (okI_t hj (by decide))]; rw [if_neg (by rw [okI_f z.2.1]; decide)]) ⟨z.1, z.2.2⟩) lkX6_termOf mlX6_69 lmX6_termOf lpX6_termOf ⟨Nat.le_of_ble_eq_true rfl, Nat.le_of_ble_eq_true rfl⟩ ⟨Nat.le_of_ble_eq_true rfl, Nat.le_of_ble_eq_true rfl⟩ rfl C.2.1 (Nat.le_of_ble_eq_true rfl) (dk rfl) ?_
  rintro _ h1 ⟨⟨i, hi, rfl, rfl⟩, eh⟩
  obtain rfl := eh.symm
  obtain ⟨nj, sj, ej, tj, wj, lj⟩ := H.slot O hj
  obtain ⟨ni, si, ei, ti, wi, li⟩ := H.slot O hi
  have t1 : TW nj ∧ nj.length ≤ 16 := ⟨wj, lj⟩
  have t2 : TW ni ∧ ni.length ≤ 16 := ⟨wi, li⟩
  obtain ⟨Gs, Sx, q1, q2, q3, q4, q5, q6, q7⟩ := runM_ok t1 t2
  iterate 2 refine fst1_ok X (dk rfl) rfl ?_
  refine getf_ok X flX6_48 (dk rfl) C.2.1 rfl ?_
  iterate 2 refine fst1_ok X (dk rfl) rfl ?_
  refine callV_ok (ci := 6) (T := TX4) (N := 5) (av := [.ref (B j), .ref (B i)]) (r := []) X E (s4_makeAlike _ Y C (i1 := j) (by omega) (by omega) (i2 := i) (by omega) (by omega) tj ti t1 t2 q7 q5 q2.1) lkX4_makeAlike mlX6_185 lmX4_makeAlike lpX4_makeAlike ⟨Nat.le_of_ble_eq_true rfl, Nat.le_of_ble_eq_true rfl⟩ ⟨Nat.le_of_ble_eq_true rfl, Nat.le_of_ble_eq_true rfl⟩ rfl C.2.2.2.1.choose_spec.choose_spec (Nat.le_of_ble_eq_true rfl) (dk rfl) ?_
  rintro _ h2 ⟨rfl, f2, F2, ps, C2, eF, T2⟩
  have H2 : FS F2 st := H.cg (fun n hn => eF n (by omega))
  iterate 2 refine fst1_ok X (dk rfl) rfl ?_
  refine getf_ok X flX6_48 (dk rfl) C2.2.1 rfl ?_
  refine callVR_ok (ci := 6) (T := TX4) (N := 5) (av := []) (r := []) X E (s4_howEnded h2 T2) lkX4_howEnded mlX6_216 lmX4_howEnded lpX4_howEnded ⟨Nat.le_of_ble_eq_true rfl, Nat.le_of_ble_eq_true rfl⟩ ⟨Nat.le_of_ble_eq_true rfl, Nat.le_of_ble_eq_true rfl⟩ rfl ⟨_, T2.2.2.1⟩ (Nat.le_of_ble_eq_true rfl) (dk rfl) ?_
  rintro _ rfl
  have e : aWhy (nI j) (nI i) st = ((0, nI Gs.2.2.1), st) := by
    unfold aWhy
    rw [if_pos (okI_t hj (by decide)), if_pos (okI_t hi (by decide)), xI_n (by omega), xI_n (by omega), getD_of sj, getD_of si, stN_of q1]
  rw [e]
  refine WRX.ret ?_
  exact reti_ok X hr hlk rfl (dk rfl) (⟨rfl, rfl, ⟨F2, C2, H2, O⟩, f2⟩) (Nat.le_of_ble_eq_true rfl) (Nat.le_of_ble_eq_true rfl)
set_option maxHeartbeats 16000000 in
theorem s6_find (h : AH) (hl : la.stackTraces = false) (Y : LYO B Q) {st : ST} (C0 : StC B Q P ox kn h st) (x1 x2 : Int32) : CTX la D cA B0 pa yX6_find cX6_find 6 (some .int) (rmD 7 2 12) [.ref ox, .int x1, .int x2] h (AP B Q P ox kn (aFind x1 x2 st) h) (AX (aFind x1 x2 st) st h) := by
  refine CTX_of (by decide +kernel) (Nat.le_of_ble_eq_true rfl) ?_
  intro p e s m args below meth c X E hr hlk hnm ht
  have dk : ∀ {pc : Nat} {q : Instr × Nat}, lkd DX6_find pc = some q → decode cX6_find pc = .ok q := lkd_ok DX6_find_ok
  obtain ⟨F, C, H, O⟩ := id C0
  iterate 2 refine fst1_ok X (dk rfl) rfl ?_
  refine callVX_ok (ci := 8) (T := TX6) (N := 14) (av := [.int x1]) (r := []) X E ht hlk (s6_termOf h hl C x1) (fun E1 h1 z => AX.one (by unfold aFind; rw [if_neg (by rw [okI_f z.2.1]; decide)]) ⟨z.1, z.2.2⟩) lkX6_termOf mlX6_69 lmX6_termOf lpX6_termOf ⟨Nat.le_of_ble_eq_true rfl, Nat.le_of_ble_eq_true rfl⟩ ⟨Nat.le_of_ble_eq_true rfl, Nat.le_of_ble_eq_true rfl⟩ rfl C.2.1 (Nat.le_of_ble_eq_true rfl) (dk rfl) ?_
  rintro _ h1 ⟨⟨j, hj, rfl, rfl⟩, eh⟩
  obtain rfl := eh.symm
  iterate 3 refine fst1_ok X (dk rfl) rfl ?_
  refine callVX_ok (ci := 8) (T := TX6) (N := 14) (av := [.int x2]) (r := []) X E ht hlk (s6_termOf _ hl C x2) (fun E1 h1 z => AX.one (by unfold aFind; rw [if_pos (okI_t hj (by decide))]; rw [if_neg (by rw [okI_f z.2.1]; decide)]) ⟨z.1, z.2.2⟩) lkX6_termOf mlX6_69 lmX6_termOf lpX6_termOf ⟨Nat.le_of_ble_eq_true rfl, Nat.le_of_ble_eq_true rfl⟩ ⟨Nat.le_of_ble_eq_true rfl, Nat.le_of_ble_eq_true rfl⟩ rfl C.2.1 (Nat.le_of_ble_eq_true rfl) (dk rfl) ?_
  rintro _ h1 ⟨⟨i, hi, rfl, rfl⟩, eh⟩
  obtain rfl := eh.symm
  obtain ⟨nj, sj, ej, tj, wj, lj⟩ := H.slot O hj
  obtain ⟨ni, si, ei, ti, wi, li⟩ := H.slot O hi
  have ea : aFind (nI j) (nI i) st = ((0, pI (fdN nj ni)), st) := by
    unfold aFind
    rw [if_pos (okI_t hj (by decide)), if_pos (okI_t hi (by decide)), xI_n (by omega), xI_n (by omega), getD_of sj, getD_of si]
  obtain ⟨m1, m2, m3, m4⟩ := subTW wi wi.pos
  have s0 := sub_self wi
  have loop : ∀ (d k : Nat), d = nj.length - k → k ≤ nj.length → (∀ q, q < k → sub' nj q ≠ ni) → ∀ l : List (Nat × Value), lsel l [5, 4, 3] = [(5, vI k), (4, .ref (B i)), (3, .ref (B j))] → WRX p la e (rmD 7 2 12) s m args below meth c D cA B0 6 (AP B Q P ox kn (aFind (nI j) (nI i) st) h) (AX (aFind (nI j) (nI i) st) st h) 16 l [] h (0 + 1 + 1) (0 + 6 + 6) := by
    intro d
    induction d with
    | zero =>
      intro k hd hk hne l hl
      have hk2 : k = nj.length := by omega
      refine WS.sel [5, 4, 3] hl ?_
      iterate 2 refine fst1_ok X (dk rfl) rfl ?_
      refine callVR_ok (ci := 7) (T := TX5) (N := 3) (av := []) (r := [vI k]) X E (s5_length _ C.1 (i := j) (by omega)) lkX5_length mlX6_76 lmX5_length lpX5_length ⟨Nat.le_of_ble_eq_true rfl, Nat.le_of_ble_eq_true rfl⟩ ⟨Nat.le_of_ble_eq_true rfl, Nat.le_of_ble_eq_true rfl⟩ rfl ⟨_, (C.1 j (by omega)).2.1⟩ (Nat.le_of_ble_eq_true rfl) (dk rfl) ?_
      rintro _ rfl
      rw [tj.len]
      refine br_ok X (dk rfl) rfl (show ((22 : Nat) : Int) + 24 = ((46 : Nat) : Int) from rfl) (fun _ => ?_) (fun q => absurd (by rw [hk2]; exact Int32.le_refl _) q)
      refine fst1_ok X (dk rfl) rfl ?_
      have en : fdN nj ni = none := fsF_no (fun q hq => decide_eq_false (hne q (by omega)))
      rw [ea, en]
      refine WRX.ret ?_
      exact reti_ok X hr hlk rfl (dk rfl) (⟨rfl, rfl, ⟨F, C, H, O⟩, FrC.rf _⟩) (Nat.le_of_ble_eq_true rfl) (Nat.le_of_ble_eq_true rfl)
    | succ d ih =>
      intro k hd hk hne l hl
      have hk0 : k < nj.length := by omega
      obtain ⟨k1, k2, k3, k4⟩ := subTW wj hk0
      refine WS.sel [5, 4, 3] hl ?_
      iterate 2 refine fst1_ok X (dk rfl) rfl ?_
      refine callVR_ok (ci := 7) (T := TX5) (N := 3) (av := []) (r := [vI k]) X E (s5_length _ C.1 (i := j) (by omega)) lkX5_length mlX6_76 lmX5_length lpX5_length ⟨Nat.le_of_ble_eq_true rfl, Nat.le_of_ble_eq_true rfl⟩ ⟨Nat.le_of_ble_eq_true rfl, Nat.le_of_ble_eq_true rfl⟩ rfl ⟨_, (C.1 j (by omega)).2.1⟩ (Nat.le_of_ble_eq_true rfl) (dk rfl) ?_
      rintro _ rfl
      rw [tj.len]
      refine br_ok X (dk rfl) rfl (show ((22 : Nat) : Int) + 24 = ((46 : Nat) : Int) from rfl) (fun q => absurd q (nI_ge (by omega) (by omega))) (fun _ => ?_)
      iterate 4 refine fst1_ok X (dk rfl) rfl ?_
      refine callVR_ok (ci := 7) (T := TX5) (N := 3) (av := [vI k, .ref (B i), vI 0]) (r := []) X E (s5_isLikeAt _ C.1 (i := j) (by omega) tj (u := i) (by omega) ti (p0 := k) (p2 := 0) (by decide) k1) lkX5_isLikeAt mlX6_207 lmX5_isLikeAt lpX5_isLikeAt ⟨Nat.le_of_ble_eq_true rfl, Nat.le_of_ble_eq_true rfl⟩ ⟨Nat.le_of_ble_eq_true rfl, Nat.le_of_ble_eq_true rfl⟩ rfl ⟨_, (C.1 j (by omega)).2.1⟩ (Nat.le_of_ble_eq_true rfl) (dk rfl) ?_
      rintro _ rfl
      by_cases e1 : sub' nj k = ni
      · rw [decide_eq_true ((like_iff wj hk0 m1).mpr (e1.trans s0.symm))]
        refine br_ok X (dk rfl) rfl (show ((34 : Nat) : Int) + 6 = ((40 : Nat) : Int) from rfl) (fun q => absurd q bI_t) (fun _ => ?_)
        refine fst1_ok X (dk rfl) rfl ?_
        have en : fdN nj ni = some k := fsF_at hk0 (fun q hq => decide_eq_false (hne q hq)) (decide_eq_true e1)
        rw [ea, en]
        refine WRX.ret ?_
        exact reti_ok X hr hlk rfl (dk rfl) (⟨rfl, rfl, ⟨F, C, H, O⟩, FrC.rf _⟩) (Nat.le_of_ble_eq_true rfl) (Nat.le_of_ble_eq_true rfl)
      · rw [decide_eq_false (fun z => e1 (((like_iff wj hk0 m1).mp z).trans s0))]
        have f3 : Value.int (nI k + Int32.ofInt 1) = vI (k + 1) := congrArg Value.int (by rw [nI_1', nI_add])
        refine br_ok X (dk rfl) rfl (show ((34 : Nat) : Int) + 6 = ((40 : Nat) : Int) from rfl) (fun _ => ?_) (fun q => absurd bI_f' q)
        refine fst1_ok X (dk rfl) rfl ?_
        refine br_ok X (dk rfl) rfl (show ((43 : Nat) : Int) + (-27) = ((16 : Nat) : Int) from rfl) (fun _ => ?_) (fun q => absurd trivial q)
        refine WS.sel (l' := [(5, vI (k + 1)), (4, .ref (B i)), (3, .ref (B j))]) [5, 4, 3] (by rw [← f3]; rfl) ?_
        exact ih (k + 1) (by omega) (by omega) (fun q hq => by
          rcases Nat.lt_or_ge q k with z | z
          · exact hne q z
          · rw [show q = k by omega]
            exact e1) _ rfl
  iterate 3 refine fst1_ok X (dk rfl) rfl ?_
  exact loop _ 0 rfl (Nat.zero_le _) (fun q hq => absurd hq (Nat.not_lt_zero _)) _ rfl
set_option maxHeartbeats 16000000 in
theorem s6_differ (h : AH) (hl : la.stackTraces = false) (Y : LYO B Q) {st : ST} (C0 : StC B Q P ox kn h st) (x1 x2 : Int32) : CTX la D cA B0 pa yX6_differ cX6_differ 6 (some .int) (rmD 7 2 12) [.ref ox, .int x1, .int x2] h (AP B Q P ox kn (aDiffer x1 x2 st) h) (AX (aDiffer x1 x2 st) st h) := by
  refine CTX_of (by decide +kernel) (Nat.le_of_ble_eq_true rfl) ?_
  intro p e s m args below meth c X E hr hlk hnm ht
  have dk : ∀ {pc : Nat} {q : Instr × Nat}, lkd DX6_differ pc = some q → decode cX6_differ pc = .ok q := lkd_ok DX6_differ_ok
  obtain ⟨F, C, H, O⟩ := id C0
  iterate 2 refine fst1_ok X (dk rfl) rfl ?_
  refine callVX_ok (ci := 8) (T := TX6) (N := 14) (av := [.int x1]) (r := []) X E ht hlk (s6_termOf h hl C x1) (fun E1 h1 z => AX.one (by unfold aDiffer; rw [if_neg (by rw [okI_f z.2.1]; decide)]) ⟨z.1, z.2.2⟩) lkX6_termOf mlX6_69 lmX6_termOf lpX6_termOf ⟨Nat.le_of_ble_eq_true rfl, Nat.le_of_ble_eq_true rfl⟩ ⟨Nat.le_of_ble_eq_true rfl, Nat.le_of_ble_eq_true rfl⟩ rfl C.2.1 (Nat.le_of_ble_eq_true rfl) (dk rfl) ?_
  rintro _ h1 ⟨⟨j, hj, rfl, rfl⟩, eh⟩
  obtain rfl := eh.symm
  iterate 3 refine fst1_ok X (dk rfl) rfl ?_
  refine callVX_ok (ci := 8) (T := TX6) (N := 14) (av := [.int x2]) (r := []) X E ht hlk (s6_termOf _ hl C x2) (fun E1 h1 z => AX.one (by unfold aDiffer; rw [if_pos (okI_t hj (by decide))]; rw [if_neg (by rw [okI_f z.2.1]; decide)]) ⟨z.1, z.2.2⟩) lkX6_termOf mlX6_69 lmX6_termOf lpX6_termOf ⟨Nat.le_of_ble_eq_true rfl, Nat.le_of_ble_eq_true rfl⟩ ⟨Nat.le_of_ble_eq_true rfl, Nat.le_of_ble_eq_true rfl⟩ rfl C.2.1 (Nat.le_of_ble_eq_true rfl) (dk rfl) ?_
  rintro _ h1 ⟨⟨i, hi, rfl, rfl⟩, eh⟩
  obtain rfl := eh.symm
  obtain ⟨nj, sj, ej, tj, wj, lj⟩ := H.slot O hj
  obtain ⟨ni, si, ei, ti, wi, li⟩ := H.slot O hi
  have ea : aDiffer (nI j) (nI i) st = ((0, pI (diffAt nj ni)), st) := by
    unfold aDiffer
    rw [if_pos (okI_t hj (by decide)), if_pos (okI_t hi (by decide)), xI_n (by omega), xI_n (by omega), getD_of sj, getD_of si]
  have loop : ∀ (d k : Nat), d = max nj.length ni.length - k → k ≤ max nj.length ni.length → (∀ q, q < k → nj[q]? = ni[q]?) → ∀ l : List (Nat × Value), lsel l [5, 4, 3] = [(5, vI k), (4, .ref (B i)), (3, .ref (B j))] → WRX p la e (rmD 7 2 12) s m args below meth c D cA B0 6 (AP B Q P ox kn (aDiffer (nI j) (nI i) st) h) (AX (aDiffer (nI j) (nI i) st) st h) 16 l [] h (0 + 1 + 1) (0 + 6 + 6) := by
    intro d
    induction d with
    | zero =>
      intro k hd hk hne l hl
      have hk1 : nj.length ≤ k := by omega
      have hk2 : ni.length ≤ k := by omega
      refine WS.sel [5, 4, 3] hl ?_
      iterate 2 refine fst1_ok X (dk rfl) rfl ?_
      refine callVR_ok (ci := 7) (T := TX5) (N := 3) (av := []) (r := [vI k]) X E (s5_length _ C.1 (i := j) (by omega)) lkX5_length mlX6_76 lmX5_length lpX5_length ⟨Nat.le_of_ble_eq_true rfl, Nat.le_of_ble_eq_true rfl⟩ ⟨Nat.le_of_ble_eq_true rfl, Nat.le_of_ble_eq_true rfl⟩ rfl ⟨_, (C.1 j (by omega)).2.1⟩ (Nat.le_of_ble_eq_true rfl) (dk rfl) ?_
      rintro _ rfl
      rw [tj.len]
      refine br_ok X (dk rfl) rfl (show ((22 : Nat) : Int) + 13 = ((35 : Nat) : Int) from rfl) (fun q => absurd ((nI_ltI (by omega) (by omega)).mp q) (by omega)) (fun _ => ?_)
      iterate 2 refine fst1_ok X (dk rfl) rfl ?_
      refine callVR_ok (ci := 7) (T := TX5) (N := 3) (av := []) (r := [vI k]) X E (s5_length _ C.1 (i := i) (by omega)) lkX5_length mlX6_76 lmX5_length lpX5_length ⟨Nat.le_of_ble_eq_true rfl, Nat.le_of_ble_eq_true rfl⟩ ⟨Nat.le_of_ble_eq_true rfl, Nat.le_of_ble_eq_true rfl⟩ rfl ⟨_, (C.1 i (by omega)).2.1⟩ (Nat.le_of_ble_eq_true rfl) (dk rfl) ?_
      rintro _ rfl
      rw [ti.len]
      refine br_ok X (dk rfl) rfl (show ((32 : Nat) : Int) + 28 = ((60 : Nat) : Int) from rfl) (fun _ => ?_) (fun q => absurd ((nI_leI (by omega) (by omega)).mpr hk2) q)
      have en : nj = ni := List.ext_getElem? (fun q => by
        rcases Nat.lt_or_ge q k with z | z
        · exact hne q z
        · rw [List.getElem?_eq_none (by omega), List.getElem?_eq_none (by omega)])
      refine fst1_ok X (dk rfl) rfl ?_
      rw [ea, diffAt_none.mpr en]
      refine WRX.ret ?_
      exact reti_ok X hr hlk rfl (dk rfl) (⟨rfl, rfl, ⟨F, C, H, O⟩, FrC.rf _⟩) (Nat.le_of_ble_eq_true rfl) (Nat.le_of_ble_eq_true rfl)
    | succ d ih =>
      intro k hd hk hne l hl
      have f3 : Value.int (nI k + Int32.ofInt 1) = vI (k + 1) := congrArg Value.int (by rw [nI_1', nI_add])
      have mid : ∀ l : List (Nat × Value), lsel l [5, 4, 3] = [(5, vI k), (4, .ref (B i)), (3, .ref (B j))] → WRX p la e (rmD 7 2 12) s m args below meth c D cA B0 6 (AP B Q P ox kn (aDiffer (nI j) (nI i) st) h) (AX (aDiffer (nI j) (nI i) st) st h) 35 l [] h (0 + 1 + 1) (0 + 6 + 6) := by
        intro l hl
        refine WS.sel [5, 4, 3] hl ?_
        iterate 2 refine fst1_ok X (dk rfl) rfl ?_
        refine callVR_ok (ci := 7) (T := TX5) (N := 3) (av := [vI k]) (r := []) X E (s5_letterAt _ C.1 (i := j) (by omega) (nI k)) lkX5_letterAt mlX6_132 lmX5_letterAt lpX5_letterAt ⟨Nat.le_of_ble_eq_true rfl, Nat.le_of_ble_eq_true rfl⟩ ⟨Nat.le_of_ble_eq_true rfl, Nat.le_of_ble_eq_true rfl⟩ rfl ⟨_, (C.1 j (by omega)).2.1⟩ (Nat.le_of_ble_eq_true rfl) (dk rfl) ?_
        rintro _ rfl
        rw [tj.1]
        iterate 2 refine fst1_ok X (dk rfl) rfl ?_
        refine callVR_ok (ci := 7) (T := TX5) (N := 3) (av := [vI k]) (r := [.int (ltX (nj.map nI) (nI k))]) X E (s5_letterAt _ C.1 (i := i) (by omega) (nI k)) lkX5_letterAt mlX6_132 lmX5_letterAt lpX5_letterAt ⟨Nat.le_of_ble_eq_true rfl, Nat.le_of_ble_eq_true rfl⟩ ⟨Nat.le_of_ble_eq_true rfl, Nat.le_of_ble_eq_true rfl⟩ rfl ⟨_, (C.1 i (by omega)).2.1⟩ (Nat.le_of_ble_eq_true rfl) (dk rfl) ?_
        rintro _ rfl
        rw [ti.1]
        refine br_ok X (dk rfl) rfl (show ((48 : Nat) : Int) + 6 = ((54 : Nat) : Int) from rfl) (fun c3 => ?_) (fun c3 => ?_)
        · refine fst1_ok X (dk rfl) rfl ?_
          refine br_ok X (dk rfl) rfl (show ((57 : Nat) : Int) + (-41) = ((16 : Nat) : Int) from rfl) (fun _ => ?_) (fun q => absurd trivial q)
          refine WS.sel (l' := [(5, vI (k + 1)), (4, .ref (B i)), (3, .ref (B j))]) [5, 4, 3] (by rw [← f3]; rfl) ?_
          exact ih (k + 1) (by omega) (by omega) (fun q hq => by
            rcases Nat.lt_or_ge q k with z | z
            · exact hne q z
            · rw [show q = k by omega]
              exact (ltX_eq tj.2 ti.2 (by omega)).mp c3) _ rfl
        · refine fst1_ok X (dk rfl) rfl ?_
          have en : diffAt nj ni = some k := diffAt_some hne (fun z => c3 ((ltX_eq tj.2 ti.2 (by omega)).mpr z))
          rw [ea, en]
          refine WRX.ret ?_
          exact reti_ok X hr hlk rfl (dk rfl) (⟨rfl, rfl, ⟨F, C, H, O⟩, FrC.rf _⟩) (Nat.le_of_ble_eq_true rfl) (Nat.le_of_ble_eq_true rfl)
      refine WS.sel [5, 4, 3] hl ?_
      iterate 2 refine fst1_ok X (dk rfl) rfl ?_
      refine callVR_ok (ci := 7) (T := TX5) (N := 3) (av := []) (r := [vI k]) X E (s5_length _ C.1 (i := j) (by omega)) lkX5_length mlX6_76 lmX5_length lpX5_length ⟨Nat.le_of_ble_eq_true rfl, Nat.le_of_ble_eq_true rfl⟩ ⟨Nat.le_of_ble_eq_true rfl, Nat.le_of_ble_eq_true rfl⟩ rfl ⟨_, (C.1 j (by omega)).2.1⟩ (Nat.le_of_ble_eq_true rfl) (dk rfl) ?_
      rintro _ rfl
      rw [tj.len]
      refine br_ok X (dk rfl) rfl (show ((22 : Nat) : Int) + 13 = ((35 : Nat) : Int) from rfl) (fun c1 => ?_) (fun c1 => ?_)
      · exact mid _ rfl
      · iterate 2 refine fst1_ok X (dk rfl) rfl ?_
        refine callVR_ok (ci := 7) (T := TX5) (N := 3) (av := []) (r := [vI k]) X E (s5_length _ C.1 (i := i) (by omega)) lkX5_length mlX6_76 lmX5_length lpX5_length ⟨Nat.le_of_ble_eq_true rfl, Nat.le_of_ble_eq_true rfl⟩ ⟨Nat.le_of_ble_eq_true rfl, Nat.le_of_ble_eq_true rfl⟩ rfl ⟨_, (C.1 i (by omega)).2.1⟩ (Nat.le_of_ble_eq_true rfl) (dk rfl) ?_
        rintro _ rfl
        rw [ti.len]
        have hk3 : k < ni.length := by
          rcases Nat.lt_or_ge k nj.length with z | z
          · exact absurd ((nI_ltI (by omega) (by omega)).mpr z) c1
          · omega
        refine br_ok X (dk rfl) rfl (show ((32 : Nat) : Int) + 28 = ((60 : Nat) : Int) from rfl) (fun q => absurd q (nI_ge (by omega) (by omega))) (fun _ => ?_)
        exact mid _ rfl
  iterate 3 refine fst1_ok X (dk rfl) rfl ?_
  exact loop _ 0 rfl (Nat.zero_le _) (fun q hq => absurd hq (Nat.not_lt_zero _)) _ rfl
set_option maxHeartbeats 16000000 in
theorem s0_firstUnlike (h : AH) (S : TS B Q h F) {o f : Nat} (O : AnO B h o f) {o3 g : Nat} (O2 : AnO B h o3 g) {r1 r2 : List (List Nat)} (H1 : RWX F f r1) (H2 : RWX F g r2) : CT la D cA B0 pa yX0_firstUnlike cX0_firstUnlike 3 (some .int) (rmD 3 0 0) [.ref o, .ref o3] h (RP (.int (pI (ulN r1 r2))) h) := by
  refine CT_of (by decide +kernel) (Nat.le_of_ble_eq_true rfl) ?_
  intro p e s m args below meth c X E hr hlk hnm
  have dk : ∀ {pc : Nat} {q : Instr × Nat}, lkd DX0_firstUnlike pc = some q → decode cX0_firstUnlike pc = .ok q := lkd_ok DX0_firstUnlike_ok
  obtain ⟨of, arr, o1, o2⟩ := id O
  obtain ⟨og, arr2, p1, p2⟩ := id O2
  have loop : ∀ (d k : Nat), d = 8 - k → k ≤ 8 → (∀ q, q < k → r1.getD q [] = r2.getD q []) → ∀ l : List (Nat × Value), lsel l [2, 1, 0] = [(2, vI k), (1, .ref o3), (0, .ref o)] → WR p la e (rmD 3 0 0) s m args below meth c D cA B0 3 (RP (.int (pI (ulN r1 r2))) h) 2 l [] h 0 0 := by
    intro d
    induction d with
    | zero =>
      intro k hd hk hne l hl
      have hk2 : k = 8 := by omega
      subst hk2
      refine WS.sel [2, 1, 0] hl ?_
      iterate 2 refine fst1_ok X (dk rfl) rfl ?_
      refine br_ok X (dk rfl) rfl (show ((5 : Nat) : Int) + 29 = ((34 : Nat) : Int) from rfl) (fun _ => ?_) (fun q => absurd (by rw [nI_8']; exact Int32.le_refl _) q)
      refine fst1_ok X (dk rfl) rfl ?_
      have en : ulN r1 r2 = none := fsF_no (fun q hq => decide_eq_false (fun z => z (hne q hq)))
      rw [en]
      exact reti_ok X hr hlk rfl (dk rfl) (⟨rfl, rfl⟩) (Nat.le_of_ble_eq_true rfl) (Nat.le_of_ble_eq_true rfl)
    | succ d ih =>
      intro k hd hk hne l hl
      obtain ⟨n1, a1, a2, a3, a4⟩ := H1.2 k (by omega)
      obtain ⟨n2, b1, b2, b3, b4⟩ := H2.2 k (by omega)
      have t1 : TN (F (f + k)) n1 := ⟨by rw [a2], a3.2⟩
      have t2 : TN (F (g + k)) n2 := ⟨by rw [b2], b3.2⟩
      have f3 : Value.int (nI k + Int32.ofInt 1) = vI (k + 1) := congrArg Value.int (by rw [nI_1', nI_add])
      refine WS.sel [2, 1, 0] hl ?_
      iterate 2 refine fst1_ok X (dk rfl) rfl ?_
      refine br_ok X (dk rfl) rfl (show ((5 : Nat) : Int) + 29 = ((34 : Nat) : Int) from rfl) (fun q => absurd q (nI_ge (a := k) (b := 8) (by omega) (by omega))) (fun _ => ?_)
      refine fst1_ok X (dk rfl) rfl ?_
      refine getf_ok X flX0_11 (dk rfl) o1 rfl ?_
      refine fst1_ok X (dk rfl) rfl ?_
      refine aldr_ok X (Or.inl rfl) (dk rfl) o2 (by omega) (rgB_get B f (k := k) (by omega)) ?_
      refine fst1_ok X (dk rfl) rfl ?_
      refine getf_ok X flX0_11 (dk rfl) p1 rfl ?_
      refine fst1_ok X (dk rfl) rfl ?_
      refine aldr_ok X (Or.inl rfl) (dk rfl) p2 (by omega) (rgB_get B g (k := k) (by omega)) ?_
      refine callVR_ok (ci := 7) (T := TX5) (N := 3) (av := [.ref (B (g + k))]) (r := []) X E (s5_isLike h S (i := f + k) (by omega) t1 (u := g + k) (by omega) t2 a3.1 b3.1) lkX5_isLike mlX0_74 lmX5_isLike lpX5_isLike ⟨Nat.le_of_ble_eq_true rfl, Nat.le_of_ble_eq_true rfl⟩ ⟨Nat.le_of_ble_eq_true rfl, Nat.le_of_ble_eq_true rfl⟩ rfl ⟨_, (S (f + k) (by omega)).2.1⟩ (Nat.le_of_ble_eq_true rfl) (dk rfl) ?_
      rintro _ rfl
      by_cases e1 : n1 = n2
      · rw [decide_eq_true e1]
        refine br_ok X (dk rfl) rfl (show ((23 : Nat) : Int) + 5 = ((28 : Nat) : Int) from rfl) (fun _ => ?_) (fun q => absurd bI_t q)
        refine fst1_ok X (dk rfl) rfl ?_
        refine br_ok X (dk rfl) rfl (show ((31 : Nat) : Int) + (-29) = ((2 : Nat) : Int) from rfl) (fun _ => ?_) (fun q => absurd trivial q)
        refine WS.sel (l' := [(2, vI (k + 1)), (1, .ref o3), (0, .ref o)]) [2, 1, 0] (by rw [← f3]; rfl) ?_
        exact ih (k + 1) (by omega) (by omega) (fun q hq => by
          rcases Nat.lt_or_ge q k with z | z
          · exact hne q z
          · rw [show q = k by omega, getD_of a1, getD_of b1]
            exact e1) _ rfl
      · rw [decide_eq_false e1]
        refine br_ok X (dk rfl) rfl (show ((23 : Nat) : Int) + 5 = ((28 : Nat) : Int) from rfl) (fun q => absurd q bI_f) (fun _ => ?_)
        refine fst1_ok X (dk rfl) rfl ?_
        have en : ulN r1 r2 = some k := fsF_at (by omega) (fun q hq => decide_eq_false (fun z => z (hne q hq))) (decide_eq_true (by rw [getD_of a1, getD_of b1]; exact e1))
        rw [en]
        exact reti_ok X hr hlk rfl (dk rfl) (⟨rfl, rfl⟩) (Nat.le_of_ble_eq_true rfl) (Nat.le_of_ble_eq_true rfl)
  iterate 2 refine fst1_ok X (dk rfl) rfl ?_
  exact loop _ 0 rfl (Nat.zero_le _) (fun q hq => absurd hq (Nat.not_lt_zero _)) _ rfl
set_option maxHeartbeats 8000000 in
theorem s6_unlike (h : AH) (hl : la.stackTraces = false) (Y : LYO B Q) {st : ST} (C0 : StC B Q P ox kn h st) (x1 x2 : Int32) : CTX la D cA B0 pa yX6_unlike cX6_unlike 5 (some .int) (rmD 7 2 12) [.ref ox, .int x1, .int x2] h (AP B Q P ox kn (aUnlike x1 x2 st) h) (AX (aUnlike x1 x2 st) st h) := by
  refine CTX_of (by decide +kernel) (Nat.le_of_ble_eq_true rfl) ?_
  intro p e s m args below meth c X E hr hlk hnm ht
  have dk : ∀ {pc : Nat} {q : Instr × Nat}, lkd DX6_unlike pc = some q → decode cX6_unlike pc = .ok q := lkd_ok DX6_unlike_ok
  obtain ⟨F, C, H, O⟩ := id C0
  iterate 2 refine fst1_ok X (dk rfl) rfl ?_
  refine callVX_ok (ci := 8) (T := TX6) (N := 14) (av := [.int x1]) (r := []) X E ht hlk (s6_answerOf h hl C x1) (fun E1 h1 z => AX.one (by unfold aUnlike; rw [if_neg (by rw [okI_f z.2.1]; decide)]) ⟨z.1, z.2.2⟩) lkX6_answerOf mlX6_151 lmX6_answerOf lpX6_answerOf ⟨Nat.le_of_ble_eq_true rfl, Nat.le_of_ble_eq_true rfl⟩ ⟨Nat.le_of_ble_eq_true rfl, Nat.le_of_ble_eq_true rfl⟩ rfl C.2.1 (Nat.le_of_ble_eq_true rfl) (dk rfl) ?_
  rintro _ h1 ⟨⟨k, hk, rfl, rfl⟩, eh⟩
  obtain rfl := eh.symm
  iterate 3 refine fst1_ok X (dk rfl) rfl ?_
  refine callVX_ok (ci := 8) (T := TX6) (N := 14) (av := [.int x2]) (r := []) X E ht hlk (s6_answerOf _ hl C x2) (fun E1 h1 z => AX.one (by unfold aUnlike; rw [if_pos (okI_t hk (by decide))]; rw [if_neg (by rw [okI_f z.2.1]; decide)]) ⟨z.1, z.2.2⟩) lkX6_answerOf mlX6_151 lmX6_answerOf lpX6_answerOf ⟨Nat.le_of_ble_eq_true rfl, Nat.le_of_ble_eq_true rfl⟩ ⟨Nat.le_of_ble_eq_true rfl, Nat.le_of_ble_eq_true rfl⟩ rfl C.2.1 (Nat.le_of_ble_eq_true rfl) (dk rfl) ?_
  rintro _ h1 ⟨⟨m, hm, rfl, rfl⟩, eh⟩
  obtain rfl := eh.symm
  obtain ⟨rows, sk, rk⟩ := H.2 k hk
  obtain ⟨rows2, sm, rm⟩ := H.2 m hm
  have ok := C.2.2.1.2.2.1 k hk
  have om := C.2.2.1.2.2.1 m hm
  iterate 3 refine fst1_ok X (dk rfl) rfl ?_
  refine callVR_ok (ci := 2) (T := TX0) (N := 1) (av := [.ref (P (7 + m))]) (r := []) X E (s0_firstUnlike _ C.1 ok om rk rm) lkX0_firstUnlike mlX6_233 lmX0_firstUnlike lpX0_firstUnlike ⟨Nat.le_of_ble_eq_true rfl, Nat.le_of_ble_eq_true rfl⟩ ⟨Nat.le_of_ble_eq_true rfl, Nat.le_of_ble_eq_true rfl⟩ rfl ⟨_, ok.2.choose_spec.1⟩ (Nat.le_of_ble_eq_true rfl) (dk rfl) ?_
  rintro _ rfl
  have e : aUnlike (nI k) (nI m) st = ((0, pI (ulN rows rows2)), st) := by
    unfold aUnlike
    rw [if_pos (okI_t hk (by decide)), if_pos (okI_t hm (by decide)), xI_n (by omega), xI_n (by omega), getD_of sk, getD_of sm]
  rw [e]
  refine WRX.ret ?_
  exact reti_ok X hr hlk rfl (dk rfl) (⟨rfl, rfl, ⟨F, C, H, O⟩, FrC.rf _⟩) (Nat.le_of_ble_eq_true rfl) (Nat.le_of_ble_eq_true rfl)
end Q11
