section U74cl3
/-! the reference's classes, 3: isFree, isRound -/
def bV (b : Bool) : Value := .int (bI b)
def frF (of' pt : List Nat) (g : List Bool) (a : Nat) : Nat → Nat → Bool
  | 0, _ => true
  | n + 1, j => if g.getD (of'.getD (pt.getD (3 * a + j) 0) 0) false = true then frF of' pt g a n (j + 1) else false
def freeF (ts : List (List Nat)) (of' pt : List Nat) (g : List Bool) (o : Option Nat) : Bool := match o with
  | some a => frF of' pt g a (pF (hdT ts a)) 0
  | none => true
def psF (ts : List (List Nat)) (of' pt : List Nat) (g : List Bool) : Nat → List Bool × Bool
  | 0 => (g, false)
  | k + 1 => if (psF ts of' pt g k).1.getD (of'.getD k 0) false = true then psF ts of' pt g k else
    if freeF ts of' pt (psF ts of' pt g k).1 (headF ts of' (of'.getD k 0)) = true then ((psF ts of' pt g k).1.set (of'.getD k 0) true, true) else psF ts of' pt g k
theorem psF_succ (ts : List (List Nat)) (of' pt : List Nat) (g : List Bool) (k : Nat) : psF ts of' pt g (k + 1) = if (psF ts of' pt g k).1.getD (of'.getD k 0) false = true then psF ts of' pt g k else
    if freeF ts of' pt (psF ts of' pt g k).1 (headF ts of' (of'.getD k 0)) = true then ((psF ts of' pt g k).1.set (of'.getD k 0) true, true) else psF ts of' pt g k := rfl
def rdF (ts : List (List Nat)) (of' pt : List Nat) : Nat → List Bool → Option (List Bool)
  | 0, _ => none
  | f + 1, g => if (psF ts of' pt g ts.length).2 = true then rdF ts of' pt f (psF ts of' pt g ts.length).1 else some (psF ts of' pt g ts.length).1
def rnF (of' : List Nat) (g : List Bool) : Nat → Nat → Bool
  | 0, _ => false
  | n + 1, k => if g.getD (of'.getD k 0) false = true then rnF of' g n (k + 1) else true
theorem psF_len (ts : List (List Nat)) (of' pt : List Nat) (g : List Bool) : ∀ k, (psF ts of' pt g k).1.length = g.length
  | 0 => rfl
  | k + 1 => by
    rw [psF_succ]
    split
    · exact psF_len ts of' pt g k
    · split
      · rw [List.length_set]
        exact psF_len ts of' pt g k
      · exact psF_len ts of' pt g k
theorem getB {g : List Bool} {j : Nat} (h : j < g.length) : ∃ b, g[j]? = some b ∧ g.getD j false = b := ⟨g[j], by simp [h], by simp [List.getD_eq_getElem?_getD, h]⟩
theorem bV_get {g : List Bool} {j : Nat} {b : Bool} (h : g[j]? = some b) : (g.map bV)[j]? = some (bV b) := by rw [List.getElem?_map, h]; rfl
def OfOk (ts : List (List Nat)) (of' : List Nat) : Prop := ∀ k, k < ts.length → of'.getD k 0 < ts.length
section M74
variable {la : Launch} {D : va_G} {cA : Nat → ClassId} {B0 pa : Nat} {o8 T O Q : Nat} {ts : List (List Nat)} {of' pt : List Nat} {can : Bool}
set_option maxHeartbeats 8000000 in
theorem c_isFree (h : AH) (M : CS h o8 T O Q ts of' pt can) (hP : PtOk ts pt) (hO : OfOk ts of') {G : Nat} {g : List Bool} (hG : h G = some (101, g.map bV)) (hg : g.length = ts.length) {o : Option Nat} (ho : ∀ a, o = some a → a < ts.length) : CT la D cA B0 pa yX8_isFree cX8_isFree 4 (some .boolean) (rmD 1 0 0) [.ref o8, .int (pI o), .ref G] h (fun v h' => v = some (bV (freeF ts of' pt g o)) ∧ h' = h) := by
  refine CT_of (by decide +kernel) (Nat.le_of_ble_eq_true rfl) ?_
  intro p e s m args below meth c X E hr hlk hnm
  have dk : ∀ {pc : Nat} {q : Instr × Nat}, lkd DX8_isFree pc = some q → decode cX8_isFree pc = .ok q := lkd_ok DX8_isFree_ok
  have h32 : ts.length ≤ 32 := M.2.2.2.2.2.2.2.1
  refine fst1_ok X (dk rfl) rfl ?_
  cases o with
  | none =>
    refine br_ok X (dk rfl) rfl (show ((1 : Nat) : Int) + 5 = ((6 : Nat) : Int) from rfl) (fun q => absurd q (by decide)) (fun _ => ?_)
    refine fst1_ok X (dk rfl) rfl ?_
    exact reti_ok X hr hlk (bI_n true) (dk rfl) ⟨rfl, rfl⟩ (Nat.le_refl _) (Nat.le_refl _)
  | some a =>
    have hal := ho a rfl
    refine br_ok X (dk rfl) rfl (show ((1 : Nat) : Int) + 5 = ((6 : Nat) : Int) from rfl) (fun _ => ?_) (fun q => absurd (nI_pos' (by omega)) q)
    obtain ⟨vs5, q5, r5, x, m1, m2, m3, m4, m5, m6, m7, m8, m9, m10⟩ := M.term hal
    have hx18 := m8.lt
    have ex : hdT ts a = x := m9
    have hp3 : pF (hdT ts a) ≤ 3 := hdT_pF M hal
    have loop : ∀ (n j : Nat) (l : List (Nat × Value)), lsel l [3, 2, 1, 0] = [(3, vI j), (2, .ref G), (1, vI a), (0, .ref o8)] → j + n = pF (hdT ts a) → frF of' pt g a n j = freeF ts of' pt g (some a) → WR p la e (rmD 1 0 0) s m args below meth c D cA B0 4 (fun v h' => v = some (bV (freeF ts of' pt g (some a))) ∧ h' = h) 8 l [] h 0 0 := by
      intro n
      induction n with
      | zero =>
        intro j l hl hj hf
        refine WS.sel [3, 2, 1, 0] hl ?_
        repeat refine fst1_ok X (dk rfl) rfl ?_
        refine getf_ok X flX8_11 (dk rfl) M.1 rfl ?_
        refine fst1_ok X (dk rfl) rfl ?_
        refine ld5_ok X (dk rfl) m1 m2 (by omega) ?_
        refine fst1_ok X (dk rfl) rfl ?_
        refine ald_ok X (Or.inl ⟨rfl, rfl⟩) (dk rfl) m4 (inA_nI (j := 0) (by omega) (IA_get m7)) ?_
        refine callSN_ok (av := [vI x]) (r := [vI j]) X E (c_parts h (by omega)) lkX10_parts mnX8_39 lsX10_parts ⟨Nat.le_of_ble_eq_true rfl, Nat.le_of_ble_eq_true rfl⟩ ⟨Nat.zero_le _, Nat.zero_le _⟩ (Nat.le_of_ble_eq_true rfl) (dk rfl) ?_
        rintro v h4 ⟨rfl, rfl⟩
        refine br_ok X (dk rfl) rfl (show ((20 : Nat) : Int) + 31 = ((51 : Nat) : Int) from rfl) (fun _ => ?_) (fun q => absurd ((nI_leI (by rw [← ex]; omega) (by omega)).mpr (by rw [← ex]; omega)) q)
        refine fst1_ok X (dk rfl) rfl ?_
        exact reti_ok X hr hlk (bI_n true) (dk rfl) ⟨by rw [← hf]; rfl, rfl⟩ (Nat.le_refl _) (Nat.le_refl _)
      | succ n ih =>
        intro j l hl hj hf
        have f2 : Value.int (nI j + Int32.ofInt 1) = vI (j + 1) := congrArg Value.int (by rw [nI_1', nI_add])
        obtain ⟨p1, p2, p3, p4⟩ := M.ptx (k := 3 * a + j) (by omega)
        have l1 := hP a hal j (by omega)
        rw [p4] at l1
        obtain ⟨z1, z2, z3, z4⟩ := M.ofx (k := p1) (by omega)
        have l2 := hO p1 l1
        rw [z4] at l2
        obtain ⟨b, b1, b2⟩ := getB (g := g) (j := z1) (by omega)
        unfold frF at hf
        rw [p4, z4, b2] at hf
        refine WS.sel [3, 2, 1, 0] hl ?_
        repeat refine fst1_ok X (dk rfl) rfl ?_
        refine getf_ok X flX8_11 (dk rfl) M.1 rfl ?_
        refine fst1_ok X (dk rfl) rfl ?_
        refine ld5_ok X (dk rfl) m1 m2 (by omega) ?_
        refine fst1_ok X (dk rfl) rfl ?_
        refine ald_ok X (Or.inl ⟨rfl, rfl⟩) (dk rfl) m4 (inA_nI (j := 0) (by omega) (IA_get m7)) ?_
        refine callSN_ok (av := [vI x]) (r := [vI j]) X E (c_parts h (by omega)) lkX10_parts mnX8_39 lsX10_parts ⟨Nat.le_of_ble_eq_true rfl, Nat.le_of_ble_eq_true rfl⟩ ⟨Nat.zero_le _, Nat.zero_le _⟩ (Nat.le_of_ble_eq_true rfl) (dk rfl) ?_
        rintro v h4 ⟨rfl, rfl⟩
        refine br_ok X (dk rfl) rfl (show ((20 : Nat) : Int) + 31 = ((51 : Nat) : Int) from rfl) (fun q => absurd (nI_ge' (by omega) (by rw [← ex]; omega) q) (by rw [← ex]; omega)) (fun _ => ?_)
        repeat refine fst1_ok X (dk rfl) rfl ?_
        refine getf_ok X flX8_17 (dk rfl) M.1 rfl ?_
        refine fst1_ok X (dk rfl) rfl ?_
        refine getf_ok X flX8_20 (dk rfl) M.1 rfl ?_
        repeat refine fst1_ok X (dk rfl) rfl ?_
        rw [nI_3', nI_mul, nI_add]
        refine ald_ok X (Or.inl ⟨rfl, rfl⟩) (dk rfl) M.2.2.2.1 (inA_nI (by omega) (IA_get p2)) ?_
        refine ald_ok X (Or.inl ⟨rfl, rfl⟩) (dk rfl) M.2.2.1 (inA_nI (by omega) (IA_get z2)) ?_
        refine ald_ok X (Or.inr (Or.inl ⟨rfl, rfl⟩)) (dk rfl) hG (inA_nI (by omega) (bV_get b1)) ?_
        cases b with
        | true =>
          rw [if_pos rfl] at hf
          refine br_ok X (dk rfl) rfl (show ((40 : Nat) : Int) + 5 = ((45 : Nat) : Int) from rfl) (fun _ => ?_) (fun q => absurd bI_t q)
          repeat refine fst1_ok X (dk rfl) rfl ?_
          refine br_ok X (dk rfl) rfl (show ((48 : Nat) : Int) + (-40) = ((8 : Nat) : Int) from rfl) (fun _ => ?_) (fun q => absurd trivial q)
          refine WS.sel (l' := [(3, vI (j + 1)), (2, .ref G), (1, vI a), (0, .ref o8)]) [3, 2, 1, 0] (by rw [← f2]; rfl) ?_
          exact ih (j + 1) _ rfl (by omega) hf
        | false =>
          rw [if_neg (by decide)] at hf
          refine br_ok X (dk rfl) rfl (show ((40 : Nat) : Int) + 5 = ((45 : Nat) : Int) from rfl) (fun q => absurd q bI_f) (fun _ => ?_)
          refine fst1_ok X (dk rfl) rfl ?_
          exact reti_ok X hr hlk (bI_n false) (dk rfl) ⟨by rw [← hf]; rfl, rfl⟩ (Nat.le_refl _) (Nat.le_refl _)
    iterate 2 refine fst1_ok X (dk rfl) rfl ?_
    exact loop (pF (hdT ts a)) 0 _ rfl (Nat.zero_add _) rfl
set_option maxHeartbeats 16000000 in
theorem c_isRound (h : AH) (M : CS h o8 T O Q ts of' pt can) (hP : PtOk ts pt) (hO : OfOk ts of') {F : Nat} {g' : List Bool} (hR : rdF ts of' pt F (List.replicate ts.length false) = some g') : CT la D cA B0 pa yX8_isRound cX8_isRound 4 (some .boolean) (rmD 2 1 32) [.ref o8] h (fun v h' => v = some (bV (rnF of' g' ts.length 0)) ∧ Ext h h') := by
  refine CT_of (by decide +kernel) (Nat.le_of_ble_eq_true rfl) ?_
  intro p e s m args below meth c X E hr hlk hnm
  have dk : ∀ {pc : Nat} {q : Instr × Nat}, lkd DX8_isRound pc = some q → decode cX8_isRound pc = .ok q := lkd_ok DX8_isRound_ok
  have h32 : ts.length ≤ 32 := M.2.2.2.2.2.2.2.1
  refine fst1_ok X (dk rfl) rfl ?_
  refine getf_ok X flX8_35 (dk rfl) M.1 rfl ?_
  have e0 : (nI ts.length).toNatClampNeg = ts.length := nI_clamp (by omega)
  refine newa_ok X (Or.inr ⟨rfl, rfl⟩) wi_bool (dk rfl) (nI_pos (by omega)) (by rw [e0]; omega) (Nat.le_of_ble_eq_true rfl) (by rw [e0]; show 0 + ts.length ≤ 32; omega) (fun G hG hBG => ?_)
  rw [e0]
  have XG : ∀ c, Ext h (hup h G c) := fun c => Ext.new hG c
  refine WS.widen (k' := 1) (n' := 32) (Nat.le_refl _) (by show 0 + ts.length ≤ 32; omega) ?_
  -- the last look
  have loop3 : ∀ (g : List Bool), g.length = ts.length → rnF of' g ts.length 0 = rnF of' g' ts.length 0 → ∀ (hh : AH), Ext h hh → hh G = some (101, g.map bV) → ∀ (n k : Nat) (l : List (Nat × Value)), lsel l [3, 1, 0] = [(3, vI k), (1, .ref G), (0, .ref o8)] → k + n = ts.length → rnF of' g n k = rnF of' g' ts.length 0 → WR p la e (rmD 2 1 32) s m args below meth c D cA B0 4 (fun v h' => v = some (bV (rnF of' g' ts.length 0)) ∧ Ext h h') 76 l [] hh 1 32 := by
    intro g hgl hge hh XX hhG n
    have MM := M.ext XX
    induction n with
    | zero =>
      intro k l hl hk hf
      refine WS.sel [3, 1, 0] hl ?_
      repeat refine fst1_ok X (dk rfl) rfl ?_
      refine getf_ok X flX8_35 (dk rfl) MM.1 rfl ?_
      refine br_ok X (dk rfl) rfl (show ((81 : Nat) : Int) + 22 = ((103 : Nat) : Int) from rfl) (fun _ => ?_) (fun c1 => absurd ((nI_leI (by omega) (by omega)).mpr (by omega)) c1)
      refine fst1_ok X (dk rfl) rfl ?_
      exact reti_ok X hr hlk (bI_n false) (dk rfl) ⟨by rw [← hf]; rfl, XX⟩ (Nat.le_refl _) (Nat.le_refl _)
    | succ n ih =>
      intro k l hl hk hf
      have f2 : Value.int (nI k + Int32.ofInt 1) = vI (k + 1) := congrArg Value.int (by rw [nI_1', nI_add])
      obtain ⟨z1, z2, z3, z4⟩ := MM.ofx (k := k) (by omega)
      have l2 := hO k (by omega)
      rw [z4] at l2
      obtain ⟨b, b1, b2⟩ := getB (g := g) (j := z1) (by omega)
      rw [show rnF of' g (n + 1) k = if g.getD (of'.getD k 0) false = true then rnF of' g n (k + 1) else true from rfl, z4, b2] at hf
      refine WS.sel [3, 1, 0] hl ?_
      repeat refine fst1_ok X (dk rfl) rfl ?_
      refine getf_ok X flX8_35 (dk rfl) MM.1 rfl ?_
      refine br_ok X (dk rfl) rfl (show ((81 : Nat) : Int) + 22 = ((103 : Nat) : Int) from rfl) (fun c1 => absurd (nI_ge' (by omega) (by omega) c1) (by omega)) (fun _ => ?_)
      repeat refine fst1_ok X (dk rfl) rfl ?_
      refine getf_ok X flX8_17 (dk rfl) MM.1 rfl ?_
      refine fst1_ok X (dk rfl) rfl ?_
      refine ald_ok X (Or.inl ⟨rfl, rfl⟩) (dk rfl) MM.2.2.1 (inA_nI (by omega) (IA_get z2)) ?_
      refine ald_ok X (Or.inr (Or.inl ⟨rfl, rfl⟩)) (dk rfl) hhG (inA_nI (by omega) (bV_get b1)) ?_
      cases b with
      | true =>
        rw [if_pos rfl] at hf
        refine br_ok X (dk rfl) rfl (show ((92 : Nat) : Int) + 5 = ((97 : Nat) : Int) from rfl) (fun _ => ?_) (fun q => absurd bI_t q)
        repeat refine fst1_ok X (dk rfl) rfl ?_
        refine br_ok X (dk rfl) rfl (show ((100 : Nat) : Int) + (-24) = ((76 : Nat) : Int) from rfl) (fun _ => ?_) (fun q => absurd trivial q)
        refine WS.sel (l' := [(3, vI (k + 1)), (1, .ref G), (0, .ref o8)]) [3, 1, 0] (by rw [← f2]; rfl) ?_
        exact ih (k + 1) _ rfl (by omega) hf
      | false =>
        rw [if_neg (by decide)] at hf
        refine br_ok X (dk rfl) rfl (show ((92 : Nat) : Int) + 5 = ((97 : Nat) : Int) from rfl) (fun q => absurd q bI_f) (fun _ => ?_)
        refine fst1_ok X (dk rfl) rfl ?_
        exact reti_ok X hr hlk (bI_n true) (dk rfl) ⟨by rw [← hf]; rfl, XX⟩ (Nat.le_refl _) (Nat.le_refl _)
  have outer : ∀ (F : Nat) (g : List Bool) (hh : AH) (l : List (Nat × Value)), lsel l [2, 1, 0] = [(2, .int (bI true)), (1, .ref G), (0, .ref o8)] → g.length = ts.length → rdF ts of' pt F g = some g' → Ext h hh → hh G = some (101, g.map bV) → WR p la e (rmD 2 1 32) s m args below meth c D cA B0 4 (fun v h' => v = some (bV (rnF of' g' ts.length 0)) ∧ Ext h h') 9 l [] hh 1 32 := by
    intro F
    induction F with
    | zero => intro g hh l hl hgl hr'; cases hr'
    | succ F ihF =>
      intro g hh l hl hgl hrd XX hhG
      unfold rdF at hrd
      have inner : ∀ (n k : Nat) (hh : AH) (l : List (Nat × Value)), lsel l [3, 2, 1, 0] = [(3, vI k), (2, .int (bI (psF ts of' pt g k).2)), (1, .ref G), (0, .ref o8)] → k + n = ts.length → Ext h hh → hh G = some (101, (psF ts of' pt g k).1.map bV) → WR p la e (rmD 2 1 32) s m args below meth c D cA B0 4 (fun v h' => v = some (bV (rnF of' g' ts.length 0)) ∧ Ext h h') 17 l [] hh 1 32 := by
        intro n
        induction n with
        | zero =>
          intro k hh l hl hk XX hhG
          have MM := M.ext XX
          have hkt : k = ts.length := by omega
          subst hkt
          refine WS.sel [3, 2, 1, 0] hl ?_
          repeat refine fst1_ok X (dk rfl) rfl ?_
          refine getf_ok X flX8_35 (dk rfl) MM.1 rfl ?_
          refine br_ok X (dk rfl) rfl (show ((22 : Nat) : Int) + 49 = ((71 : Nat) : Int) from rfl) (fun _ => ?_) (fun c1 => absurd ((nI_leI (by omega) (by omega)).mpr (by omega)) c1)
          refine br_ok X (dk rfl) rfl (show ((71 : Nat) : Int) + (-62) = ((9 : Nat) : Int) from rfl) (fun _ => ?_) (fun q => absurd trivial q)
          have hpl := psF_len ts of' pt g ts.length
          cases hon : (psF ts of' pt g ts.length).2 with
          | true =>
            rw [hon, if_pos rfl] at hrd
            exact ihF _ hh _ rfl (by rw [hpl, hgl]) hrd XX hhG
          | false =>
            rw [hon, if_neg (by decide)] at hrd
            refine fst1_ok X (dk rfl) rfl ?_
            refine br_ok X (dk rfl) rfl (show ((10 : Nat) : Int) + 64 = ((74 : Nat) : Int) from rfl) (fun _ => ?_) (fun q => absurd bI_f' q)
            iterate 2 refine fst1_ok X (dk rfl) rfl ?_
            cases hrd
            exact loop3 _ (by rw [hpl, hgl]) rfl hh XX hhG ts.length 0 _ rfl (Nat.zero_add _) rfl
        | succ n ih =>
          intro k hh l hl hk XX hhG
          have MM := M.ext XX
          have f2 : Value.int (nI k + Int32.ofInt 1) = vI (k + 1) := congrArg Value.int (by rw [nI_1', nI_add])
          obtain ⟨z1, z2, z3, z4⟩ := MM.ofx (k := k) (by omega)
          have l2 := hO k (by omega)
          rw [z4] at l2
          have hpl := psF_len ts of' pt g k
          obtain ⟨b, b1, b2⟩ := getB (g := (psF ts of' pt g k).1) (j := z1) (by omega)
          have hsu := psF_succ ts of' pt g k
          rw [z4, b2] at hsu
          have next9 : ∀ (on : Bool) (hh : AH), on = (psF ts of' pt g (k + 1)).2 → Ext h hh → hh G = some (101, (psF ts of' pt g (k + 1)).1.map bV) → ∀ l : List (Nat × Value), lsel l [3, 2, 1, 0] = [(3, vI k), (2, .int (bI on)), (1, .ref G), (0, .ref o8)] → WR p la e (rmD 2 1 32) s m args below meth c D cA B0 4 (fun v h' => v = some (bV (rnF of' g' ts.length 0)) ∧ Ext h h') 65 l [] hh 1 32 := by
            intro on hh hon XX hhG l hl
            refine WS.sel [3, 2, 1, 0] hl ?_
            repeat refine fst1_ok X (dk rfl) rfl ?_
            refine br_ok X (dk rfl) rfl (show ((68 : Nat) : Int) + (-51) = ((17 : Nat) : Int) from rfl) (fun _ => ?_) (fun q => absurd trivial q)
            refine WS.sel (l' := [(3, vI (k + 1)), (2, .int (bI (psF ts of' pt g (k + 1)).2)), (1, .ref G), (0, .ref o8)]) [3, 2, 1, 0] (by rw [← f2, ← hon]; rfl) ?_
            exact ih (k + 1) hh _ rfl (by omega) XX hhG
          refine WS.sel [3, 2, 1, 0] hl ?_
          repeat refine fst1_ok X (dk rfl) rfl ?_
          refine getf_ok X flX8_35 (dk rfl) MM.1 rfl ?_
          refine br_ok X (dk rfl) rfl (show ((22 : Nat) : Int) + 49 = ((71 : Nat) : Int) from rfl) (fun c1 => absurd (nI_ge' (by omega) (by omega) c1) (by omega)) (fun _ => ?_)
          repeat refine fst1_ok X (dk rfl) rfl ?_
          refine getf_ok X flX8_17 (dk rfl) MM.1 rfl ?_
          refine fst1_ok X (dk rfl) rfl ?_
          refine ald_ok X (Or.inl ⟨rfl, rfl⟩) (dk rfl) MM.2.2.1 (inA_nI (by omega) (IA_get z2)) ?_
          refine ald_ok X (Or.inr (Or.inl ⟨rfl, rfl⟩)) (dk rfl) hhG (inA_nI (by omega) (bV_get b1)) ?_
          cases b with
          | true =>
            rw [if_pos rfl] at hsu
            refine br_ok X (dk rfl) rfl (show ((33 : Nat) : Int) + 32 = ((65 : Nat) : Int) from rfl) (fun _ => ?_) (fun q => absurd bI_t q)
            exact next9 _ hh (by rw [hsu]) XX (by rw [hsu]; exact hhG) _ rfl
          | false =>
            rw [if_neg (by decide)] at hsu
            refine br_ok X (dk rfl) rfl (show ((33 : Nat) : Int) + 32 = ((65 : Nat) : Int) from rfl) (fun q => absurd q bI_f) (fun _ => ?_)
            repeat refine fst1_ok X (dk rfl) rfl ?_
            refine getf_ok X flX8_17 (dk rfl) MM.1 rfl ?_
            refine fst1_ok X (dk rfl) rfl ?_
            refine ald_ok X (Or.inl ⟨rfl, rfl⟩) (dk rfl) MM.2.2.1 (inA_nI (by omega) (IA_get z2)) ?_
            refine callV_ok (ci := 10) (T := TX8) (N := 5) (av := [vI z1]) (r := [.ref o8]) X E (c_headed hh MM z3) lkX8_headed mlX8_66 lmX8_headed lpX8_headed ⟨Nat.le_of_ble_eq_true rfl, Nat.le_of_ble_eq_true rfl⟩ ⟨Nat.le_of_ble_eq_true rfl, Nat.le_of_ble_eq_true rfl⟩ rfl MM.1 (Nat.le_of_ble_eq_true rfl) (dk rfl) ?_
            rintro v h2 ⟨rfl, rfl⟩
            rw [vP_pI]
            refine fst1_ok X (dk rfl) rfl ?_
            refine callV_ok (ci := 10) (T := TX8) (N := 5) (av := [.int (pI (headF ts of' z1)), .ref G]) (r := []) X E (c_isFree h2 MM hP hO hhG (by rw [hpl, hgl]) (fun a ha => (headF_ok ha).1)) lkX8_isFree mlX8_69 lmX8_isFree lpX8_isFree ⟨Nat.le_of_ble_eq_true rfl, Nat.le_of_ble_eq_true rfl⟩ ⟨Nat.le_of_ble_eq_true rfl, Nat.le_of_ble_eq_true rfl⟩ rfl MM.1 (Nat.le_of_ble_eq_true rfl) (dk rfl) ?_
            rintro v h3 ⟨rfl, rfl⟩
            cases hfr : freeF ts of' pt (psF ts of' pt g k).1 (headF ts of' z1) with
            | false =>
              rw [hfr, if_neg (by decide)] at hsu
              refine br_ok X (dk rfl) rfl (show ((51 : Nat) : Int) + 14 = ((65 : Nat) : Int) from rfl) (fun _ => ?_) (fun q => absurd bI_f' q)
              exact next9 _ h3 (by rw [hsu]) XX (by rw [hsu]; exact hhG) _ rfl
            | true =>
              rw [hfr, if_pos rfl] at hsu
              refine br_ok X (dk rfl) rfl (show ((51 : Nat) : Int) + 14 = ((65 : Nat) : Int) from rfl) (fun q => absurd q bI_t) (fun _ => ?_)
              repeat refine fst1_ok X (dk rfl) rfl ?_
              refine getf_ok X flX8_17 (dk rfl) MM.1 rfl ?_
              refine fst1_ok X (dk rfl) rfl ?_
              refine ald_ok X (Or.inl ⟨rfl, rfl⟩) (dk rfl) MM.2.2.1 (inA_nI (by omega) (IA_get z2)) ?_
              refine fst1_ok X (dk rfl) rfl ?_
              have ez : (nI z1).toNatClampNeg = z1 := nI_clamp (by omega)
              refine ast_ok X (Or.inr (Or.inl ⟨rfl, rfl, Or.inr (by decide)⟩)) (dk rfl) hhG ⟨nI_pos (by omega), by rw [ez, List.length_map]; omega⟩ ?_
              rw [ez]
              iterate 2 refine fst1_ok X (dk rfl) rfl ?_
              refine next9 true _ (by rw [hsu]) (XX.set hG _) ?_ _ rfl
              rw [hup_self, hsu, List.map_set]
              rfl
      refine WS.sel [2, 1, 0] hl ?_
      refine fst1_ok X (dk rfl) rfl ?_
      refine br_ok X (dk rfl) rfl (show ((10 : Nat) : Int) + 64 = ((74 : Nat) : Int) from rfl) (fun q => absurd q bI_t) (fun _ => ?_)
      iterate 4 refine fst1_ok X (dk rfl) rfl ?_
      exact inner ts.length 0 hh _ rfl (Nat.zero_add _) XX hhG
  iterate 3 refine fst1_ok X (dk rfl) rfl ?_
  refine outer F (List.replicate ts.length false) _ _ rfl (List.length_replicate) hR (XG _) ?_
  rw [hup_self, List.map_replicate]
  rfl
end M74
end U74cl3
section U75cl4
/-! the reference's classes, 4: whole, answer -/
def leF (ts : List (List Nat)) (of' : List Nat) (its : Nat) : Nat → Nat
  | 0 => 8
  | k + 1 => if of'.getD k 0 = its then min (leF ts of' its k) (hdT ts k) else leF ts of' its k
theorem leF_succ (ts : List (List Nat)) (of' : List Nat) (its k : Nat) : leF ts of' its (k + 1) = if of'.getD k 0 = its then min (leF ts of' its k) (hdT ts k) else leF ts of' its k := rfl
theorem leF_8 (ts : List (List Nat)) (of' : List Nat) (its : Nat) : ∀ k, leF ts of' its k ≤ 8
  | 0 => Nat.le_refl _
  | k + 1 => by
    have := leF_8 ts of' its k
    rw [leF_succ]
    split <;> omega
theorem leF_le {ts : List (List Nat)} {of' : List Nat} {its i : Nat} (h : of'.getD i 0 = its) : ∀ {k : Nat}, i < k → leF ts of' its k ≤ hdT ts i
  | k + 1, hi => by
    rw [leF_succ]
    rcases Nat.lt_or_ge i k with q | q
    · have := leF_le (ts := ts) h q
      split <;> omega
    · have : i = k := by omega
      subst this
      rw [if_pos h]
      omega
abbrev W3 : Type := Option (List Nat) × Nat × Nat
def wcL (go : Nat → Option W3) (of' pt : List Nat) (a : Nat) : Nat → Nat → List Nat → Nat → Nat → Option W3
  | 0, _, made, C, N => some (some made, C, N)
  | n + 1, j, made, C, N => match go (of'.getD (pt.getD (3 * a + j) 0) 0) with
    | none => none
    | some (none, c1, n1) => some (none, C + c1, N + n1)
    | some (some x, c1, n1) => if 16 < made.length + x.length then some (none, C + c1, N + n1) else wcL go of' pt a n (j + 1) (made ++ x) (C + c1 + 1) (N + n1 + (made.length + x.length))
def wcF (ts : List (List Nat)) (of' pt : List Nat) : Nat → Nat → Option W3
  | 0, _ => none
  | f + 1, its => match headF ts of' its with
    | none => some (some [leF ts of' its ts.length], 1, 1)
    | some a => wcL (wcF ts of' pt f) of' pt a (pF (hdT ts a)) 0 [hdT ts a] 1 1
theorem wcL_mono {go : Nat → Option W3} {of' pt : List Nat} {a : Nat} : ∀ (n j : Nat) (made : List Nat) (C N : Nat) (r : Option (List Nat)) (C' N' : Nat), wcL go of' pt a n j made C N = some (r, C', N') → C ≤ C' ∧ N ≤ N'
  | 0, j, made, C, N, r, C', N', h => by cases h; exact ⟨Nat.le_refl _, Nat.le_refl _⟩
  | n + 1, j, made, C, N, r, C', N', h => by
    unfold wcL at h
    split at h
    · cases h
    · cases h; exact ⟨by omega, by omega⟩
    · split at h
      · cases h; exact ⟨by omega, by omega⟩
      · have := wcL_mono n (j + 1) _ _ _ r C' N' h
        omega
def wcP (h : AH) (r : Option (List Nat)) (v : Option Value) (h' : AH) : Prop := Ext h h' ∧ match r with
  | none => v = some .null
  | some x => x.length ≤ 16 ∧ TW x ∧ ∃ q, v = some (.ref q) ∧ h' q = some (IA x)
def anF (ts : List (List Nat)) (of' pt : List Nat) (F : Nat) : Nat → Nat → List (List Nat) → Nat → Nat → Option (Option (List (List Nat)) × Nat × Nat)
  | 0, _, rows, C, N => some (some rows, C, N)
  | n + 1, k, rows, C, N => if 10 ≤ hdT ts k then anF ts of' pt F n (k + 1) rows C N else match wcF ts of' pt F (of'.getD k 0) with
    | none => none
    | some (none, c1, n1) => some (none, C + c1, N + n1)
    | some (some x, c1, n1) => anF ts of' pt F n (k + 1) (rows.set (hdT ts k) x) (C + c1) (N + n1)
theorem anF_mono {ts : List (List Nat)} {of' pt : List Nat} {F : Nat} : ∀ (n k : Nat) (rows : List (List Nat)) (C N : Nat) (r : Option (List (List Nat))) (C' N' : Nat), anF ts of' pt F n k rows C N = some (r, C', N') → C ≤ C' ∧ N ≤ N'
  | 0, k, rows, C, N, r, C', N', h => by cases h; exact ⟨Nat.le_refl _, Nat.le_refl _⟩
  | n + 1, k, rows, C, N, r, C', N', h => by
    unfold anF at h
    split at h
    · exact anF_mono n (k + 1) _ _ _ r C' N' h
    · split at h
      · cases h
      · cases h; exact ⟨by omega, by omega⟩
      · have := anF_mono n (k + 1) _ _ _ r C' N' h
        omega
def an8P (B0 : Nat) (h : AH) (r : Option (List (List Nat))) (v : Option Value) (h' : AH) : Prop := match r with
  | none => v = some .null ∧ Ext h h'
  | some rows => AO rows ∧ newR B0 h rows v h'
section M75
variable {la : Launch} {D : va_G} {cA : Nat → ClassId} {B0 pa : Nat} {o8 T O Q : Nat} {ts : List (List Nat)} {of' pt : List Nat} {can : Bool}
def WcC (la : Launch) (D : va_G) (cA : Nat → ClassId) (B0 pa o8 T O Q : Nat) (ts : List (List Nat)) (of' pt : List Nat) (can : Bool) (f : Nat) : Prop := ∀ (h : AH) (its : Nat) (r : Option (List Nat)) (C N : Nat), CS h o8 T O Q ts of' pt can → its < 32 → (∃ k, k < ts.length ∧ of'.getD k 0 = its) → wcF ts of' pt f its = some (r, C, N) →
  CT la D cA B0 pa yX8_whole cX8_whole 6 (some (.array .int)) (rmD (f + 1) C N) [.ref o8, vI its] h (wcP h r)
set_option maxHeartbeats 16000000 in
theorem c_whole8 (hP : PtOk ts pt) : ∀ f : Nat, WcC la D cA B0 pa o8 T O Q ts of' pt can f
  | 0 => by
    intro h its r C N M h1 h2 hw
    cases hw
  | f + 1 => by
    have IH := c_whole8 hP f
    intro h its r C N M h1 h2 hw
    refine CT_of (by decide +kernel) (Nat.le_of_ble_eq_true rfl) ?_
    intro p e s m args below meth c X E hr hlk hnm
    have dk : ∀ {pc : Nat} {q : Instr × Nat}, lkd DX8_whole pc = some q → decode cX8_whole pc = .ok q := lkd_ok DX8_whole_ok
    have h32 : ts.length ≤ 32 := M.2.2.2.2.2.2.2.1
    unfold wcF at hw
    repeat refine fst1_ok X (dk rfl) rfl ?_
    refine callV_ok (ci := 10) (T := TX8) (N := 5) (av := [vI its]) (r := []) X E (c_headed h M h1) lkX8_headed mlX8_66 lmX8_headed lpX8_headed ⟨by show 0 + 1 ≤ f + 1 + 1; omega, by show 8 + (3 + 11) + 40 * 0 ≤ 40 * (f + 1 + 1); omega⟩ ⟨Nat.zero_le _, Nat.zero_le _⟩ rfl M.1 (Nat.le_of_ble_eq_true rfl) (dk rfl) ?_
    rintro v h9 ⟨rfl, rfl⟩
    rw [vP_pI]
    repeat refine fst1_ok X (dk rfl) rfl ?_
    cases ho : headF ts of' its with
    | none =>
      rw [ho] at hw
      dsimp only at hw
      simp only [Option.some.injEq, Prod.mk.injEq] at hw
      obtain ⟨rfl, rfl, rfl⟩ := hw
      refine br_ok X (dk rfl) rfl (show ((7 : Nat) : Int) + 54 = ((61 : Nat) : Int) from rfl) (fun q => absurd q (by decide)) (fun _ => ?_)
      have loop : ∀ (n k : Nat) (l : List (Nat × Value)), lsel l [4, 3, 1, 0] = [(4, vI k), (3, vI (leF ts of' its k)), (1, vI its), (0, .ref o8)] → k + n = ts.length → WR p la e (rmD (f + 1 + 1) 1 1) s m args below meth c D cA B0 6 (wcP h9 (some [leF ts of' its ts.length])) 16 l [] h9 0 0 := by
        intro n
        induction n with
        | zero =>
          intro k l hl hk
          have hkt : k = ts.length := by omega
          subst hkt
          have l8 := leF_8 ts of' its ts.length
          refine WS.sel [4, 3, 1, 0] hl ?_
          repeat refine fst1_ok X (dk rfl) rfl ?_
          refine getf_ok X flX8_35 (dk rfl) M.1 rfl ?_
          refine br_ok X (dk rfl) rfl (show ((22 : Nat) : Int) + 34 = ((56 : Nat) : Int) from rfl) (fun _ => ?_) (fun c1 => absurd ((nI_leI (by omega) (by omega)).mpr (by omega)) c1)
          refine fst1_ok X (dk rfl) rfl ?_
          refine callSN_ok (av := [vI (leF ts of' its ts.length)]) (r := []) X E (c_row h9 _) lkX10_row mnX8_79 lsX10_row ⟨by show 0 + 1 ≤ f + 1 + 1; omega, by show 8 + (1 + 11) + 40 * 0 ≤ 40 * (f + 1 + 1); omega⟩ ⟨Nat.le_of_ble_eq_true rfl, Nat.le_of_ble_eq_true rfl⟩ (Nat.le_of_ble_eq_true rfl) (dk rfl) ?_
          rintro v h4 ⟨q, rfl, hq, hBq, rfl⟩
          obtain ⟨i, i1, i2⟩ := h2
          have i3 := headF_no ho i1 i2
          obtain ⟨vs5, q5, r5, x, m1, m2, m3, m4, m5, m6, m7, m8, m9, m10⟩ := M.term i1
          have ex : hdT ts i = x := m9
          have i4 := leF_le (ts := ts) i2 i1
          have hlt : leF ts of' its ts.length < 8 := by rcases m8 with z | z <;> omega
          refine reta_ok X hr hlk (Or.inr ⟨_, rfl⟩) (Or.inr ⟨_, rfl⟩) (dk rfl) ⟨Ext.new hq _, Nat.le_of_ble_eq_true rfl, TW.name hlt, q, rfl, hup_self _ _ _⟩ (Nat.le_refl _) (Nat.le_refl _)
        | succ n ih =>
          intro k l hl hk
          have f2 : Value.int (nI k + Int32.ofInt 1) = vI (k + 1) := congrArg Value.int (by rw [nI_1', nI_add])
          obtain ⟨z1, z2, z3, z4⟩ := M.ofx (k := k) (by omega)
          obtain ⟨vs5, q5, r5, x, m1, m2, m3, m4, m5, m6, m7, m8, m9, m10⟩ := M.term (k := k) (by omega)
          have ex : hdT ts k = x := m9
          have x18 := m8.lt
          have l8 := leF_8 ts of' its k
          have next9 : ∀ l : List (Nat × Value), lsel l [4, 3, 1, 0] = [(4, vI k), (3, vI (leF ts of' its (k + 1))), (1, vI its), (0, .ref o8)] → WR p la e (rmD (f + 1 + 1) 1 1) s m args below meth c D cA B0 6 (wcP h9 (some [leF ts of' its ts.length])) 50 l [] h9 0 0 := by
            intro l hl
            refine WS.sel [4, 3, 1, 0] hl ?_
            repeat refine fst1_ok X (dk rfl) rfl ?_
            refine br_ok X (dk rfl) rfl (show ((53 : Nat) : Int) + (-37) = ((16 : Nat) : Int) from rfl) (fun _ => ?_) (fun q => absurd trivial q)
            refine WS.sel (l' := [(4, vI (k + 1)), (3, vI (leF ts of' its (k + 1))), (1, vI its), (0, .ref o8)]) [4, 3, 1, 0] (by rw [← f2]; rfl) ?_
            exact ih (k + 1) _ rfl (by omega)
          refine WS.sel [4, 3, 1, 0] hl ?_
          repeat refine fst1_ok X (dk rfl) rfl ?_
          refine getf_ok X flX8_35 (dk rfl) M.1 rfl ?_
          refine br_ok X (dk rfl) rfl (show ((22 : Nat) : Int) + 34 = ((56 : Nat) : Int) from rfl) (fun c1 => absurd (nI_ge' (by omega) (by omega) c1) (by omega)) (fun _ => ?_)
          refine fst1_ok X (dk rfl) rfl ?_
          refine getf_ok X flX8_17 (dk rfl) M.1 rfl ?_
          refine fst1_ok X (dk rfl) rfl ?_
          refine ald_ok X (Or.inl ⟨rfl, rfl⟩) (dk rfl) M.2.2.1 (inA_nI (by omega) (IA_get z2)) ?_
          refine fst1_ok X (dk rfl) rfl ?_
          refine br_ok X (dk rfl) rfl (show ((33 : Nat) : Int) + 17 = ((50 : Nat) : Int) from rfl) (fun c1 => ?_) (fun c1 => ?_)
          · have e1 : leF ts of' its (k + 1) = leF ts of' its k := by rw [leF_succ, if_neg (fun z => c1 (by rw [← z4, z]))]
            exact next9 _ (by rw [e1]; rfl)
          · have ey : z1 = its := (nI_eq (by omega) (by omega)).mp (Decidable.not_not.mp c1)
            have e1 : leF ts of' its (k + 1) = min (leF ts of' its k) x := by rw [leF_succ, if_pos (by rw [z4, ey]), ex]
            repeat refine fst1_ok X (dk rfl) rfl ?_
            refine getf_ok X flX8_11 (dk rfl) M.1 rfl ?_
            refine fst1_ok X (dk rfl) rfl ?_
            refine ld5_ok X (dk rfl) m1 m2 (by omega) ?_
            refine fst1_ok X (dk rfl) rfl ?_
            refine ald_ok X (Or.inl ⟨rfl, rfl⟩) (dk rfl) m4 (inA_nI (j := 0) (by omega) (IA_get m7)) ?_
            refine mmin_ok X (by omega) (by omega) mlX8_73 (dk rfl) (by show 1 ≤ f + 1 + 1; omega) (by show 0 + 13 ≤ 40 * (f + 1 + 1); omega) (Nat.zero_le _) (Nat.zero_le _) ?_
            refine fst1_ok X (dk rfl) rfl ?_
            exact next9 _ (by rw [e1]; rfl)
      iterate 4 refine fst1_ok X (dk rfl) rfl ?_
      exact loop ts.length 0 _ rfl (Nat.zero_add _)
    | some a =>
      have hal := (headF_ok ho).1
      rw [ho] at hw
      dsimp only at hw
      refine br_ok X (dk rfl) rfl (show ((7 : Nat) : Int) + 54 = ((61 : Nat) : Int) from rfl) (fun _ => ?_) (fun q => absurd (nI_pos' (by omega)) q)
      obtain ⟨vs5, q5, r5, x, m1, m2, m3, m4, m5, m6, m7, m8, m9, m10⟩ := M.term hal
      have hx18 := m8.lt
      have ex : hdT ts a = x := m9
      have hp3 : pF (hdT ts a) ≤ 3 := hdT_pF M hal
      have hCN := wcL_mono _ _ _ _ _ _ _ _ hw
      have loop : ∀ (n j q : Nat) (made : List Nat) (C0 N0 : Nat) (hh : AH) (l : List (Nat × Value)), lsel l [4, 3, 2, 0] = [(4, vI j), (3, .ref q), (2, vI a), (0, .ref o8)] → j + n = pF (hdT ts a) → Ext h9 hh → hh q = some (IA made) → Wnt made n → made.length ≤ 16 → wcL (wcF ts of' pt f) of' pt a n j made C0 N0 = some (r, C, N) → WR p la e (rmD (f + 1 + 1) C N) s m args below meth c D cA B0 6 (wcP h9 r) 76 l [] hh C0 N0 := by
        intro n
        induction n with
        | zero =>
          intro j q made C0 N0 hh l hl hj XX hq hW h16 hwl
          have MM := M.ext XX
          obtain ⟨vs6, q6, r6, x', n1, n2, n3, n4, n5, n6, n7, n8, n9, n10⟩ := MM.term hal
          have ex' : hdT ts a = x' := n9
          have hx' := n8.lt
          cases hwl
          refine WS.sel [4, 3, 2, 0] hl ?_
          repeat refine fst1_ok X (dk rfl) rfl ?_
          refine getf_ok X flX8_11 (dk rfl) MM.1 rfl ?_
          refine fst1_ok X (dk rfl) rfl ?_
          refine ld5_ok X (dk rfl) n1 n2 (by omega) ?_
          refine fst1_ok X (dk rfl) rfl ?_
          refine ald_ok X (Or.inl ⟨rfl, rfl⟩) (dk rfl) n4 (inA_nI (j := 0) (by omega) (IA_get n7)) ?_
          refine callSN_ok (av := [vI x']) (r := [vI j]) X E (c_parts hh (by omega)) lkX10_parts mnX8_39 lsX10_parts ⟨by show 0 + 1 ≤ f + 1 + 1; omega, by show 8 + (1 + 11) + 40 * 0 ≤ 40 * (f + 1 + 1); omega⟩ ⟨Nat.le_refl _, Nat.le_refl _⟩ (Nat.le_of_ble_eq_true rfl) (dk rfl) ?_
          rintro v h4 ⟨rfl, rfl⟩
          refine br_ok X (dk rfl) rfl (show ((89 : Nat) : Int) + 56 = ((145 : Nat) : Int) from rfl) (fun _ => ?_) (fun z => absurd ((nI_leI (by rw [← ex']; omega) (by omega)).mpr (by rw [← ex']; omega)) z)
          refine fst1_ok X (dk rfl) rfl ?_
          exact reta_ok X hr hlk (Or.inr ⟨_, rfl⟩) (Or.inr ⟨_, rfl⟩) (dk rfl) ⟨XX, h16, hW.tw, q, rfl, hq⟩ (Nat.le_refl _) (Nat.le_refl _)
        | succ n ih =>
          intro j q made C0 N0 hh l hl hj XX hq hW h16 hwl
          have MM := M.ext XX
          obtain ⟨vs6, q6, r6, x', n1, n2, n3, n4, n5, n6, n7, n8, n9, n10⟩ := MM.term hal
          have ex' : hdT ts a = x' := n9
          have hx' := n8.lt
          have f2 : Value.int (nI j + Int32.ofInt 1) = vI (j + 1) := congrArg Value.int (by rw [nI_1', nI_add])
          obtain ⟨p1, p2, p3, p4⟩ := MM.ptx (k := 3 * a + j) (by omega)
          have l1 := hP a hal j (by omega)
          rw [p4] at l1
          obtain ⟨z1, z2, z3, z4⟩ := MM.ofx (k := p1) (by omega)
          have lmade : (made.map vI).length = made.length := List.length_map _
          unfold wcL at hwl
          rw [p4, z4] at hwl
          refine WS.sel [4, 3, 2, 0] hl ?_
          repeat refine fst1_ok X (dk rfl) rfl ?_
          refine getf_ok X flX8_11 (dk rfl) MM.1 rfl ?_
          refine fst1_ok X (dk rfl) rfl ?_
          refine ld5_ok X (dk rfl) n1 n2 (by omega) ?_
          refine fst1_ok X (dk rfl) rfl ?_
          refine ald_ok X (Or.inl ⟨rfl, rfl⟩) (dk rfl) n4 (inA_nI (j := 0) (by omega) (IA_get n7)) ?_
          cases hg : wcF ts of' pt f z1 with
          | none => rw [hg] at hwl; cases hwl
          | some g =>
          obtain ⟨g, c1, n1'⟩ := g
          rw [hg] at hwl
          have hroom : C0 + c1 ≤ C ∧ N0 + n1' ≤ N := by
            cases g with
            | none => cases hwl; exact ⟨Nat.le_refl _, Nat.le_refl _⟩
            | some y =>
              dsimp only at hwl
              split at hwl
              · cases hwl; exact ⟨Nat.le_refl _, Nat.le_refl _⟩
              · have := wcL_mono _ _ _ _ _ _ _ _ hwl
                omega
          refine callSN_ok (av := [vI x']) (r := [vI j]) X E (c_parts hh (by omega)) lkX10_parts mnX8_39 lsX10_parts ⟨by show 0 + 1 ≤ f + 1 + 1; omega, by show 8 + (1 + 11) + 40 * 0 ≤ 40 * (f + 1 + 1); omega⟩ ⟨by show C0 + 0 ≤ C; omega, by show N0 + 0 ≤ N; omega⟩ (Nat.le_of_ble_eq_true rfl) (dk rfl) ?_
          rintro v h4 ⟨rfl, rfl⟩
          refine br_ok X (dk rfl) rfl (show ((89 : Nat) : Int) + 56 = ((145 : Nat) : Int) from rfl) (fun z => absurd (nI_ge' (by omega) (by rw [← ex']; omega) z) (by rw [← ex']; omega)) (fun _ => ?_)
          repeat refine fst1_ok X (dk rfl) rfl ?_
          refine getf_ok X flX8_17 (dk rfl) MM.1 rfl ?_
          refine fst1_ok X (dk rfl) rfl ?_
          refine getf_ok X flX8_20 (dk rfl) MM.1 rfl ?_
          repeat refine fst1_ok X (dk rfl) rfl ?_
          rw [nI_3', nI_mul, nI_add]
          refine ald_ok X (Or.inl ⟨rfl, rfl⟩) (dk rfl) MM.2.2.2.1 (inA_nI (by omega) (IA_get p2)) ?_
          refine ald_ok X (Or.inl ⟨rfl, rfl⟩) (dk rfl) MM.2.2.1 (inA_nI (by omega) (IA_get z2)) ?_
          refine callV_ok (ci := 10) (T := TX8) (N := 5) (av := [vI z1]) (r := []) X E (IH _ z1 g c1 n1' MM z3 ⟨p1, l1, z4⟩ hg) lkX8_whole mlX8_83 lmX8_whole lpX8_whole ⟨by show f + 1 + 1 ≤ f + 1 + 1; omega, by show 8 + (6 + 11) + 40 * (f + 1) ≤ 40 * (f + 1 + 1); omega⟩ hroom rfl MM.1 (Nat.le_of_ble_eq_true rfl) (dk rfl) ?_
          rintro v h5 ⟨X5, hv⟩
          have hq5 := X5 _ _ hq
          cases g with
          | none =>
            dsimp only at hv hwl
            subst hv
            simp only [Option.some.injEq, Prod.mk.injEq] at hwl
            obtain ⟨rfl, rfl, rfl⟩ := hwl
            repeat refine fst1_ok X (dk rfl) rfl ?_
            refine br_ok X (dk rfl) rfl (show ((116 : Nat) : Int) + 14 = ((130 : Nat) : Int) from rfl) (fun _ => ?_) (fun z => absurd trivial z)
            refine fst1_ok X (dk rfl) rfl ?_
            exact reta_ok X hr hlk (Or.inr ⟨_, rfl⟩) (Or.inl rfl) (dk rfl) ⟨XX.trans X5, rfl⟩ (Nat.le_refl _) (Nat.le_refl _)
          | some y =>
            dsimp only at hv hwl
            obtain ⟨y16, yTW, qy, rfl, hqy⟩ := hv
            have ly : (y.map vI).length = y.length := List.length_map _
            repeat refine fst1_ok X (dk rfl) rfl ?_
            refine br_ok X (dk rfl) rfl (show ((116 : Nat) : Int) + 14 = ((130 : Nat) : Int) from rfl) (fun z => absurd z (fun z => z)) (fun _ => ?_)
            refine fst1_ok X (dk rfl) rfl ?_
            refine alen_ok X (by decide) (dk rfl) hq5 ?_
            rw [lmade]
            refine fst1_ok X (dk rfl) rfl ?_
            refine alen_ok X (by decide) (dk rfl) hqy ?_
            rw [ly]
            repeat refine fst1_ok X (dk rfl) rfl ?_
            rw [nI_add, nI_16]
            refine br_ok X (dk rfl) rfl (show ((127 : Nat) : Int) + 5 = ((132 : Nat) : Int) from rfl) (fun c5 => ?_) (fun c5 => ?_)
            · have c6 : made.length + y.length ≤ 16 := (nI_leI (by omega) (by omega)).mp c5
              rw [if_neg (by omega)] at hwl
              have hm := wcL_mono _ _ _ _ _ _ _ _ hwl
              repeat refine fst1_ok X (dk rfl) rfl ?_
              refine callSN_ok (av := [.ref q, .ref qy]) (r := []) X E (c_joined h5 hq5 hqy (by omega) (by omega)) lkX10_joined mnX8_86 lsX10_joined ⟨by show 0 + 1 ≤ f + 1 + 1; omega, by show 8 + (4 + 11) + 40 * 0 ≤ 40 * (f + 1 + 1); omega⟩ ⟨by show C0 + c1 + 1 ≤ C; omega, by show N0 + n1' + (made.length + y.length) ≤ N; omega⟩ (Nat.le_of_ble_eq_true rfl) (dk rfl) ?_
              rintro v h6 ⟨q7, rfl, hq7, hB7, rfl⟩
              have X7 := Ext.new hq7 (IA (made ++ y))
              repeat refine fst1_ok X (dk rfl) rfl ?_
              refine br_ok X (dk rfl) rfl (show ((142 : Nat) : Int) + (-66) = ((76 : Nat) : Int) from rfl) (fun _ => ?_) (fun q => absurd trivial q)
              refine WS.sel (l' := [(4, vI (j + 1)), (3, .ref q7), (2, vI a), (0, .ref o8)]) [4, 3, 2, 0] (by rw [← f2]; rfl) ?_
              exact ih (j + 1) q7 (made ++ y) (C0 + c1 + 1) (N0 + n1' + (made.length + y.length)) _ _ rfl (by omega) ((XX.trans X5).trans X7) (hup_self _ _ _) (hW.more yTW) (by rw [List.length_append]; exact c6) hwl
            · have c6 : 16 < made.length + y.length := Nat.lt_of_not_le (fun z => c5 ((nI_leI (by omega) (by omega)).mpr z))
              rw [if_pos c6] at hwl
              simp only [Option.some.injEq, Prod.mk.injEq] at hwl
              obtain ⟨rfl, rfl, rfl⟩ := hwl
              refine fst1_ok X (dk rfl) rfl ?_
              exact reta_ok X hr hlk (Or.inr ⟨_, rfl⟩) (Or.inl rfl) (dk rfl) ⟨XX.trans X5, rfl⟩ (Nat.le_refl _) (Nat.le_refl _)
      refine fst1_ok X (dk rfl) rfl ?_
      refine getf_ok X flX8_11 (dk rfl) M.1 rfl ?_
      refine fst1_ok X (dk rfl) rfl ?_
      refine ld5_ok X (dk rfl) m1 m2 (by omega) ?_
      refine fst1_ok X (dk rfl) rfl ?_
      refine ald_ok X (Or.inl ⟨rfl, rfl⟩) (dk rfl) m4 (inA_nI (j := 0) (by omega) (IA_get m7)) ?_
      refine callSN_ok (av := [vI x]) (r := []) X E (c_row h9 x) lkX10_row mnX8_79 lsX10_row ⟨by show 0 + 1 ≤ f + 1 + 1; omega, by show 8 + (1 + 11) + 40 * 0 ≤ 40 * (f + 1 + 1); omega⟩ ⟨by show 0 + 1 ≤ C; omega, by show 0 + 1 ≤ N; omega⟩ (Nat.le_of_ble_eq_true rfl) (dk rfl) ?_
      rintro v h4 ⟨q, rfl, hq, hBq, rfl⟩
      iterate 3 refine fst1_ok X (dk rfl) rfl ?_
      exact loop (pF (hdT ts a)) 0 q [x] 1 1 _ _ rfl (Nat.zero_add _) (Ext.new hq _) (hup_self _ _ _) (by rw [ex]; exact Wnt.head m8) (Nat.le_of_ble_eq_true rfl) (by rw [← ex]; exact hw)
set_option maxHeartbeats 16000000 in
theorem c_answer8 (h : AH) (M : CS h o8 T O Q ts of' pt can) (hP : PtOk ts pt) {F : Nat} {r : Option (List (List Nat))} {C N : Nat} (hA : anF ts of' pt F ts.length 0 [[0], [1], [2], [3], [4], [5], [6], [7]] 9 16 = some (r, C, N)) : CT la D cA B0 pa yX8_answer cX8_answer 4 (some (.array (.array .int))) (rmD (F + 2) C N) [.ref o8] h (an8P B0 h r) := by
  refine CT_of (by decide +kernel) (Nat.le_of_ble_eq_true rfl) ?_
  intro p e s m args below meth c X E hr hlk hnm
  have dk : ∀ {pc : Nat} {q : Instr × Nat}, lkd DX8_answer pc = some q → decode cX8_answer pc = .ok q := lkd_ok DX8_answer_ok
  have h32 : ts.length ≤ 32 := M.2.2.2.2.2.2.2.1
  have hCN := anF_mono _ _ _ _ _ _ _ _ hA
  refine callSN_ok (av := []) (r := []) X E (c_none h) lkX10_none mnX8_90 lsX10_none ⟨by show 1 + 1 ≤ F + 2; omega, by show 8 + (2 + 11) + 40 * 1 ≤ 40 * (F + 2); omega⟩ ⟨by show 0 + 9 ≤ C; omega, by show 0 + 16 ≤ N; omega⟩ (Nat.le_of_ble_eq_true rfl) (dk rfl) ?_
  rintro v h1 ⟨A, rfl, hA0, hBA, X1, hA1⟩
  have loop : ∀ (n k : Nat) (rows : List (List Nat)) (C0 N0 : Nat) (hh : AH) (l : List (Nat × Value)), lsel l [2, 1, 0] = [(2, vI k), (1, .ref A), (0, .ref o8)] → k + n = ts.length → Ext h hh → Ans hh A rows → AO rows → anF ts of' pt F n k rows C0 N0 = some (r, C, N) → WR p la e (rmD (F + 2) C N) s m args below meth c D cA B0 4 (an8P B0 h r) 6 l [] hh C0 N0 := by
    intro n
    induction n with
    | zero =>
      intro k rows C0 N0 hh l hl hk XX hAn hAO hf
      have MM := M.ext XX
      cases hf
      refine WS.sel [2, 1, 0] hl ?_
      repeat refine fst1_ok X (dk rfl) rfl ?_
      refine getf_ok X flX8_35 (dk rfl) MM.1 rfl ?_
      refine br_ok X (dk rfl) rfl (show ((11 : Nat) : Int) + 53 = ((64 : Nat) : Int) from rfl) (fun _ => ?_) (fun c1 => absurd ((nI_leI (by omega) (by omega)).mpr (by omega)) c1)
      refine fst1_ok X (dk rfl) rfl ?_
      exact reta_ok X hr hlk (Or.inr ⟨_, rfl⟩) (Or.inr ⟨_, rfl⟩) (dk rfl) ⟨hAO, A, rfl, hA0, hBA, XX, hAn⟩ (Nat.le_refl _) (Nat.le_refl _)
    | succ n ih =>
      intro k rows C0 N0 hh l hl hk XX hAn hAO hf
      have MM := M.ext XX
      have f2 : Value.int (nI k + Int32.ofInt 1) = vI (k + 1) := congrArg Value.int (by rw [nI_1', nI_add])
      obtain ⟨vs6, q6, r6, x, n1, n2, n3, n4, n5, n6, n7, n8, n9, n10⟩ := MM.term (k := k) (by omega)
      have ex : hdT ts k = x := n9
      have hx18 := n8.lt
      have hC0 := anF_mono _ _ _ _ _ _ _ _ hf
      unfold anF at hf
      rw [ex] at hf
      have next9 : ∀ (rows : List (List Nat)) (C0 N0 : Nat) (hh : AH), Ext h hh → Ans hh A rows → AO rows → anF ts of' pt F n (k + 1) rows C0 N0 = some (r, C, N) → ∀ l : List (Nat × Value), lsel l [2, 1, 0] = [(2, vI k), (1, .ref A), (0, .ref o8)] → WR p la e (rmD (F + 2) C N) s m args below meth c D cA B0 4 (an8P B0 h r) 58 l [] hh C0 N0 := by
        intro rows C0 N0 hh XX hAn hAO hf l hl
        refine WS.sel [2, 1, 0] hl ?_
        repeat refine fst1_ok X (dk rfl) rfl ?_
        refine br_ok X (dk rfl) rfl (show ((61 : Nat) : Int) + (-55) = ((6 : Nat) : Int) from rfl) (fun _ => ?_) (fun q => absurd trivial q)
        refine WS.sel (l' := [(2, vI (k + 1)), (1, .ref A), (0, .ref o8)]) [2, 1, 0] (by rw [← f2]; rfl) ?_
        exact ih (k + 1) rows C0 N0 hh _ rfl (by omega) XX hAn hAO hf
      refine WS.sel [2, 1, 0] hl ?_
      repeat refine fst1_ok X (dk rfl) rfl ?_
      refine getf_ok X flX8_35 (dk rfl) MM.1 rfl ?_
      refine br_ok X (dk rfl) rfl (show ((11 : Nat) : Int) + 53 = ((64 : Nat) : Int) from rfl) (fun c1 => absurd (nI_ge' (by omega) (by omega) c1) (by omega)) (fun _ => ?_)
      refine fst1_ok X (dk rfl) rfl ?_
      refine getf_ok X flX8_11 (dk rfl) MM.1 rfl ?_
      refine fst1_ok X (dk rfl) rfl ?_
      refine ld5_ok X (dk rfl) n1 n2 (by omega) ?_
      refine fst1_ok X (dk rfl) rfl ?_
      refine ald_ok X (Or.inl ⟨rfl, rfl⟩) (dk rfl) n4 (inA_nI (j := 0) (by omega) (IA_get n7)) ?_
      refine fst1_ok X (dk rfl) rfl ?_
      rw [nI_10]
      refine br_ok X (dk rfl) rfl (show ((24 : Nat) : Int) + 6 = ((30 : Nat) : Int) from rfl) (fun c2 => ?_) (fun c2 => ?_)
      · have x10 : x < 10 := (nI_ltI (by omega) (by omega)).mp c2
        have x8 : x < 8 := by rcases n8 with z | z <;> omega
        rw [if_neg (by omega)] at hf
        obtain ⟨z1, z2, z3, z4⟩ := MM.ofx (k := k) (by omega)
        rw [z4] at hf
        cases hg : wcF ts of' pt F z1 with
        | none => rw [hg] at hf; cases hf
        | some g =>
        obtain ⟨g, c1, n1'⟩ := g
        rw [hg] at hf
        have hroom : C0 + c1 ≤ C ∧ N0 + n1' ≤ N := by
          cases g with
          | none => cases hf; exact ⟨Nat.le_refl _, Nat.le_refl _⟩
          | some y => exact anF_mono _ _ _ _ _ _ _ _ hf
        refine fst1_ok X (dk rfl) rfl ?_
        refine fst1_ok X (dk rfl) rfl ?_
        refine getf_ok X flX8_17 (dk rfl) MM.1 rfl ?_
        refine fst1_ok X (dk rfl) rfl ?_
        refine ald_ok X (Or.inl ⟨rfl, rfl⟩) (dk rfl) MM.2.2.1 (inA_nI (by omega) (IA_get z2)) ?_
        refine callV_ok (ci := 10) (T := TX8) (N := 5) (av := [vI z1]) (r := []) X E (c_whole8 hP F hh z1 g c1 n1' MM z3 ⟨k, by omega, z4⟩ hg) lkX8_whole mlX8_83 lmX8_whole lpX8_whole ⟨by show F + 1 + 1 ≤ F + 2; omega, by show 8 + (6 + 11) + 40 * (F + 1) ≤ 40 * (F + 2); omega⟩ hroom rfl MM.1 (Nat.le_of_ble_eq_true rfl) (dk rfl) ?_
        rintro v h5 ⟨X5, hv⟩
        have M5 := MM.ext X5
        cases g with
        | none =>
          dsimp only at hv hf
          subst hv
          simp only [Option.some.injEq, Prod.mk.injEq] at hf
          obtain ⟨rfl, rfl, rfl⟩ := hf
          repeat refine fst1_ok X (dk rfl) rfl ?_
          refine br_ok X (dk rfl) rfl (show ((42 : Nat) : Int) + 5 = ((47 : Nat) : Int) from rfl) (fun z => absurd z (fun z => z)) (fun _ => ?_)
          refine fst1_ok X (dk rfl) rfl ?_
          exact reta_ok X hr hlk (Or.inr ⟨_, rfl⟩) (Or.inl rfl) (dk rfl) ⟨rfl, XX.trans X5⟩ (Nat.le_refl _) (Nat.le_refl _)
        | some y =>
          dsimp only at hv hf
          obtain ⟨y16, yTW, qy, rfl, hqy⟩ := hv
          obtain ⟨vs, v1, v2, A2⟩ := AnsPut (hAn.ext X5) (k := x) (n := 8) x8 hqy hAO.1
          repeat refine fst1_ok X (dk rfl) rfl ?_
          refine br_ok X (dk rfl) rfl (show ((42 : Nat) : Int) + 5 = ((47 : Nat) : Int) from rfl) (fun _ => ?_) (fun z => absurd trivial z)
          repeat refine fst1_ok X (dk rfl) rfl ?_
          refine getf_ok X flX8_11 (dk rfl) M5.1 rfl ?_
          refine fst1_ok X (dk rfl) rfl ?_
          refine ld5_ok X (dk rfl) (X5 _ _ n1) n2 (by omega) ?_
          refine fst1_ok X (dk rfl) rfl ?_
          refine ald_ok X (Or.inl ⟨rfl, rfl⟩) (dk rfl) (X5 _ _ n4) (inA_nI (j := 0) (by omega) (IA_get n7)) ?_
          refine fst1_ok X (dk rfl) rfl ?_
          refine str_ok X (dk rfl) v1 hqy (by omega) (by omega) ?_
          exact next9 _ _ _ _ ((XX.trans X5).set hA0 _) A2 (hAO.set ⟨yTW, y16⟩) hf _ rfl
      · have x10 : 10 ≤ x := Nat.le_of_not_lt (fun z => c2 ((nI_ltI (by omega) (by omega)).mpr z))
        rw [if_pos x10] at hf
        refine br_ok X (dk rfl) rfl (show ((27 : Nat) : Int) + 31 = ((58 : Nat) : Int) from rfl) (fun _ => ?_) (fun q => absurd trivial q)
        exact next9 rows C0 N0 hh XX hAn hAO hf _ rfl
  iterate 3 refine fst1_ok X (dk rfl) rfl ?_
  exact loop ts.length 0 _ 9 16 h1 _ rfl (Nat.zero_add _) X1 hA1 AO_none hA
end M75
end U75cl4
section U76cl5
/-! the reference's classes, 5: all of it ends, and what it costs -/
theorem getD_set {xs : List Nat} {i j v : Nat} (hi : i < xs.length) : (xs.set i v).getD j 0 = if i = j then v else xs.getD j 0 := by
  rw [List.getD_eq_getElem?_getD, List.getD_eq_getElem?_getD]
  by_cases e : i = j
  · subst e
    rw [List.getElem?_set_self hi, if_pos rfl]
    rfl
  · rw [List.getElem?_set_ne e, if_neg e]
theorem relF_len (of' : List Nat) (a b : Nat) : ∀ k, (relF of' a b k).length = of'.length
  | 0 => rfl
  | k + 1 => by
    rw [relF_succ]
    split
    · rw [List.length_set]; exact relF_len of' a b k
    · exact relF_len of' a b k
theorem relF_get {of' : List Nat} {a b : Nat} (hl : of'.length = 32) : ∀ {k : Nat}, k ≤ 32 → ∀ i, (relF of' a b k).getD i 0 = if i < k ∧ of'.getD i 0 = b then a else of'.getD i 0
  | 0, _, i => by rw [if_neg (by omega)]; rfl
  | k + 1, hk, i => by
    have ih := relF_get (a := a) (b := b) hl (k := k) (by omega)
    have hll := relF_len of' a b k
    rw [relF_succ]
    by_cases c : (relF of' a b k).getD k 0 = b
    · rw [if_pos c, getD_set (by omega), ih i]
      rw [ih k, if_neg (by omega)] at c
      by_cases e : k = i
      · subst e
        rw [if_pos rfl, if_pos ⟨by omega, c⟩]
      · rw [if_neg e]
        by_cases z : i < k ∧ of'.getD i 0 = b
        · rw [if_pos z, if_pos ⟨by omega, z.2⟩]
        · rw [if_neg z, if_neg (fun y => z ⟨by omega, y.2⟩)]
    · rw [if_neg c, ih i]
      rw [ih k, if_neg (by omega)] at c
      by_cases z : i < k ∧ of'.getD i 0 = b
      · rw [if_pos z, if_pos ⟨by omega, z.2⟩]
      · rw [if_neg z, if_neg (fun y => z ⟨by
          rcases Nat.lt_or_ge i k with q | q
          · exact q
          · have : i = k := by omega
            rw [this] at y
            exact absurd y.2 c, y.2⟩)]
/-- each class is told by one of its own -/
def JI (n : Nat) (of' : List Nat) : Prop := of'.length = 32 ∧ ∀ k, k < n → of'.getD k 0 < n ∧ of'.getD (of'.getD k 0) 0 = of'.getD k 0
def fxN (n : Nat) (of' : List Nat) : Nat := sJ (fun k => if of'.getD k 0 = k then 1 else 0) n
theorem fxN_le (n : Nat) (of' : List Nat) : fxN n of' ≤ n := by
  have h : fxN n of' ≤ sJ (fun _ => 1) n := sJ_le (fun i _ => by split <;> omega)
  rw [sJ_1] at h
  exact h
theorem JI_rel {n : Nat} {of' : List Nat} (hn : n ≤ 32) (J : JI n of') {one other : Nat} (h1 : one < n) (h2 : other < n) (hne : of'.getD one 0 ≠ of'.getD other 0) : JI n (relF of' (of'.getD one 0) (of'.getD other 0) n) ∧ fxN n (relF of' (of'.getD one 0) (of'.getD other 0) n) + 1 ≤ fxN n of' := by
  have ja := J.2 one h1
  have jb := J.2 other h2
  generalize of'.getD one 0 = a at *
  generalize of'.getD other 0 = b at *
  have g := relF_get (a := a) (b := b) J.1 hn
  refine ⟨⟨by rw [relF_len]; exact J.1, fun k hk => ?_⟩, ?_⟩
  · rw [g k]
    by_cases c : k < n ∧ of'.getD k 0 = b
    · rw [if_pos c, g a, if_neg (fun z => hne (ja.2.symm.trans z.2))]
      exact ja
    · rw [if_neg c]
      have jk := J.2 k hk
      have hc : of'.getD k 0 ≠ b := fun z => c ⟨hk, z⟩
      rw [g, if_neg (fun z => hc (jk.2.symm.trans z.2))]
      exact jk
  · refine sJ_lek (k := b) jb.1 (fun i hi => ?_) ?_
    · rw [g i]
      by_cases c : i < n ∧ of'.getD i 0 = b
      · rw [if_pos c]
        by_cases e : a = i
        · rw [← e, ja.2] at c
          exact absurd c.2 hne
        · rw [if_neg e]
          exact Nat.zero_le _
      · rw [if_neg c]
        exact Nat.le_refl _
    · rw [g b, if_pos (show b < n ∧ of'.getD b 0 = b from jb), if_neg hne, if_pos jb.2]
      exact Nat.le_refl _
theorem joinF_ok {ts : List (List Nat)} {pt : List Nat} (hn : ts.length ≤ 32) (hP : PtOk ts pt) : ∀ (f : Nat) (of' : List Nat) (can : Bool) (one other : Nat), JI ts.length of' → one < ts.length → other < ts.length → fxN ts.length of' < f → ∃ o2 c2, joinF ts pt f of' can one other = some (o2, c2) ∧ JI ts.length o2 ∧ fxN ts.length o2 ≤ fxN ts.length of'
  | 0, of', can, one, other, J, h1, h2, hf => by omega
  | f + 1, of', can, one, other, J, h1, h2, hf => by
    by_cases c : of'.getD one 0 = of'.getD other 0 ∨ can = false
    · refine ⟨of', can, ?_, J, Nat.le_refl _⟩
      unfold joinF
      rw [if_pos c]
    · obtain ⟨J2, hfx⟩ := JI_rel hn J h1 h2 (fun z => c (Or.inl z))
      have e : joinF ts pt (f + 1) of' can one other = (match headF ts of' (of'.getD one 0), headF ts of' (of'.getD other 0) with
        | some a, some b => if hdT ts a = hdT ts b then joinL (joinF ts pt f) pt a b (pF (hdT ts a)) 0 (relF of' (of'.getD one 0) (of'.getD other 0) ts.length) can else some (relF of' (of'.getD one 0) (of'.getD other 0) ts.length, false)
        | _, _ => some (relF of' (of'.getD one 0) (of'.getD other 0) ts.length, can)) := by
        show (if _ then _ else _) = _
        rw [if_neg c]
        rfl
      rw [e]
      generalize relF of' (of'.getD one 0) (of'.getD other 0) ts.length = of1 at J2 hfx
      have loop : ∀ (a b : Nat), a < ts.length → b < ts.length → hdT ts a = hdT ts b → ∀ (n j : Nat) (o1 : List Nat) (c1 : Bool), j + n = pF (hdT ts a) → JI ts.length o1 → fxN ts.length o1 ≤ fxN ts.length of1 → ∃ o2 c2, joinL (joinF ts pt f) pt a b n j o1 c1 = some (o2, c2) ∧ JI ts.length o2 ∧ fxN ts.length o2 ≤ fxN ts.length of1 := by
        intro a b ha hb hab n
        induction n with
        | zero => intro j o1 c1 hj J1 hx; exact ⟨o1, c1, rfl, J1, hx⟩
        | succ n ih =>
          intro j o1 c1 hj J1 hx
          obtain ⟨o3, c3, k1, k2, k3⟩ := joinF_ok hn hP f o1 c1 _ _ J1 (hP a ha j (by omega)) (hP b hb j (by rw [← hab]; omega)) (by omega)
          obtain ⟨o4, c4, m1, m2, m3⟩ := ih (j + 1) o3 c3 (by omega) k2 (by omega)
          refine ⟨o4, c4, ?_, m2, m3⟩
          unfold joinL
          rw [k1]
          exact m1
      cases ha : headF ts of' (of'.getD one 0) with
      | none => exact ⟨of1, can, rfl, J2, by omega⟩
      | some a =>
        cases hb : headF ts of' (of'.getD other 0) with
        | none => exact ⟨of1, can, rfl, J2, by omega⟩
        | some b =>
          dsimp only
          by_cases hab : hdT ts a = hdT ts b
          · rw [if_pos hab]
            obtain ⟨o4, c4, m1, m2, m3⟩ := loop a b (headF_ok ha).1 (headF_ok hb).1 hab (pF (hdT ts a)) 0 of1 can (Nat.zero_add _) J2 (Nat.le_refl _)
            exact ⟨o4, c4, m1, m2, by omega⟩
          · rw [if_neg hab]
            exact ⟨of1, false, rfl, J2, by omega⟩
/-- the class of a part -/
def pcl (of' pt : List Nat) (a j : Nat) : Nat := of'.getD (pt.getD (3 * a + j) 0) 0
def cgN (n : Nat) (g : List Bool) : Nat := sJ (fun i => if g.getD i false = true then 1 else 0) n
theorem cgN_le (n : Nat) (g : List Bool) : cgN n g ≤ n := by
  have h : cgN n g ≤ sJ (fun _ => 1) n := sJ_le (fun i _ => by split <;> omega)
  rw [sJ_1] at h
  exact h
theorem getDB_set {xs : List Bool} {i j : Nat} {v : Bool} (hi : i < xs.length) : (xs.set i v).getD j false = if i = j then v else xs.getD j false := by
  rw [List.getD_eq_getElem?_getD, List.getD_eq_getElem?_getD]
  by_cases e : i = j
  · subst e
    rw [List.getElem?_set_self hi, if_pos rfl]
    rfl
  · rw [List.getElem?_set_ne e, if_neg e]
theorem cgN_set {n : Nat} {g : List Bool} {c : Nat} (hg : g.length = n) (hc : c < n) (h0 : g.getD c false = false) : cgN n (g.set c true) = cgN n g + 1 := by
  have e := sJ_upd (f := fun i => if (g.set c true).getD i false = true then 1 else 0) (g := fun i => if g.getD i false = true then 1 else 0) (k := c) (n := n) hc (fun i hi => by rw [getDB_set (by omega), if_neg (Ne.symm hi)])
  rw [getDB_set (by omega), if_pos rfl, if_pos rfl, h0, if_neg (by decide)] at e
  unfold cgN
  omega
/-- gone classes: their parts went before them -/
def GI (ts : List (List Nat)) (of' pt : List Nat) (g : List Bool) : Prop := ∃ (rk : Nat → Nat) (K : Nat), (∀ c, rk c < K) ∧ K ≤ cgN ts.length g + 1 ∧ ∀ c, g.getD c false = true → ∀ a, headF ts of' c = some a → ∀ j, j < pF (hdT ts a) → g.getD (pcl of' pt a j) false = true ∧ rk (pcl of' pt a j) < rk c
theorem frF_all {of' pt : List Nat} {g : List Bool} {a : Nat} : ∀ (n j : Nat), frF of' pt g a n j = true → ∀ i, j ≤ i → i < j + n → g.getD (pcl of' pt a i) false = true
  | 0, j, h, i, h1, h2 => by omega
  | n + 1, j, h, i, h1, h2 => by
    unfold frF at h
    split at h
    · rename_i c
      rcases Nat.eq_or_lt_of_le h1 with q | q
      · subst q; exact c
      · exact frF_all n (j + 1) h i (by omega) (by omega)
    · cases h
theorem GI_set {ts : List (List Nat)} {of' pt : List Nat} {g : List Bool} (hg : g.length = ts.length) (G : GI ts of' pt g) {c : Nat} (hc : c < ts.length) (h0 : g.getD c false = false) (hf : freeF ts of' pt g (headF ts of' c) = true) : GI ts of' pt (g.set c true) := by
  obtain ⟨rk, K, k1, k2, k3⟩ := G
  refine ⟨fun x => if x = c then K else rk x, K + 1, fun x => ?_, by rw [cgN_set hg hc h0]; omega, fun x hx a ha j hj => ?_⟩
  · have := k1 x
    show (if x = c then K else rk x) < K + 1
    split <;> omega
  · have put : ∀ y, g.getD y false = true → (g.set c true).getD y false = true ∧ y ≠ c := fun y hy => by
      have hne : y ≠ c := fun z => by rw [z, h0] at hy; cases hy
      rw [getDB_set (by omega), if_neg (Ne.symm hne)]
      exact ⟨hy, hne⟩
    by_cases e : x = c
    · subst e
      rw [ha] at hf
      have h1 := frF_all _ _ hf j (Nat.zero_le _) (by omega)
      obtain ⟨h2, h3⟩ := put _ h1
      refine ⟨h2, ?_⟩
      dsimp only
      rw [if_neg h3, if_pos rfl]
      exact k1 _
    · rw [getDB_set (by omega), if_neg (Ne.symm e)] at hx
      obtain ⟨h1, h2⟩ := k3 x hx a ha j hj
      obtain ⟨h3, h4⟩ := put _ h1
      refine ⟨h3, ?_⟩
      dsimp only
      rw [if_neg h4, if_neg e]
      exact h2
theorem psF_ok {ts : List (List Nat)} {of' pt : List Nat} (hO : OfOk ts of') {g : List Bool} (hg : g.length = ts.length) (G : GI ts of' pt g) : ∀ k, k ≤ ts.length → GI ts of' pt (psF ts of' pt g k).1 ∧ cgN ts.length g ≤ cgN ts.length (psF ts of' pt g k).1 ∧ ((psF ts of' pt g k).2 = true → cgN ts.length g + 1 ≤ cgN ts.length (psF ts of' pt g k).1)
  | 0, _ => ⟨G, Nat.le_refl _, fun h => by cases h⟩
  | k + 1, hk => by
    obtain ⟨h1, h2, h3⟩ := psF_ok hO hg G k (by omega)
    have hl := psF_len ts of' pt g k
    rw [psF_succ]
    by_cases c : (psF ts of' pt g k).1.getD (of'.getD k 0) false = true
    · rw [if_pos c]
      exact ⟨h1, h2, h3⟩
    · rw [if_neg c]
      have c0 : (psF ts of' pt g k).1.getD (of'.getD k 0) false = false := by
        cases hh : (psF ts of' pt g k).1.getD (of'.getD k 0) false with
        | true => exact absurd hh c
        | false => rfl
      by_cases d : freeF ts of' pt (psF ts of' pt g k).1 (headF ts of' (of'.getD k 0)) = true
      · rw [if_pos d]
        have hc := hO k (by omega)
        refine ⟨GI_set (by omega) h1 hc c0 d, ?_, fun _ => ?_⟩
        · rw [cgN_set (by omega) hc c0]; omega
        · rw [cgN_set (by omega) hc c0]; omega
      · rw [if_neg d]
        exact ⟨h1, h2, h3⟩
theorem rdF_ok {ts : List (List Nat)} {of' pt : List Nat} (hO : OfOk ts of') : ∀ (f : Nat) (g : List Bool), g.length = ts.length → GI ts of' pt g → ts.length < f + cgN ts.length g → ∃ g', rdF ts of' pt f g = some g' ∧ GI ts of' pt g' ∧ g'.length = ts.length
  | 0, g, hg, G, hf => by
    have := cgN_le ts.length g
    omega
  | f + 1, g, hg, G, hf => by
    obtain ⟨h1, h2, h3⟩ := psF_ok hO hg G ts.length (Nat.le_refl _)
    have hl := psF_len ts of' pt g ts.length
    unfold rdF
    by_cases c : (psF ts of' pt g ts.length).2 = true
    · rw [if_pos c]
      have := h3 c
      exact rdF_ok hO f _ (by omega) h1 (by omega)
    · rw [if_neg c]
      exact ⟨_, rfl, h1, by omega⟩
theorem GI_0 (ts : List (List Nat)) (of' pt : List Nat) : GI ts of' pt (List.replicate ts.length false) := by
  refine ⟨fun _ => 0, 1, fun _ => Nat.zero_lt_one, by omega, fun c hc => ?_⟩
  rw [List.getD_eq_getElem?_getD, List.getElem?_replicate] at hc
  split at hc <;> cases hc
theorem rnF_no {of' : List Nat} {g : List Bool} : ∀ (n k : Nat), rnF of' g n k = false → ∀ i, k ≤ i → i < k + n → g.getD (of'.getD i 0) false = true
  | 0, k, h, i, h1, h2 => by omega
  | n + 1, k, h, i, h1, h2 => by
    unfold rnF at h
    split at h
    · rename_i c
      rcases Nat.eq_or_lt_of_le h1 with q | q
      · subst q; exact c
      · exact rnF_no n (k + 1) h i (by omega) (by omega)
    · cases h
/-- what a class stands for costs -/
def WB (f : Nat) (r : Option (List Nat)) (C N : Nat) : Prop := N ≤ 16 * C ∧ match r with
  | none => C ≤ 64 * (f + 1)
  | some x => x.length ≤ 16 ∧ C + 1 = 2 * x.length
theorem wcL_ok {go : Nat → Option W3} {of' pt : List Nat} {a f : Nat} : ∀ (n j : Nat) (made : List Nat) (C N : Nat), (∀ i, j ≤ i → i < j + n → ∃ r c1 n1, go (pcl of' pt a i) = some (r, c1, n1) ∧ WB f r c1 n1) → made.length ≤ 16 → C + 1 = 2 * made.length → N ≤ 16 * C → ∃ r C' N', wcL go of' pt a n j made C N = some (r, C', N') ∧ WB (f + 1) r C' N'
  | 0, j, made, C, N, hg, h1, h2, h3 => ⟨some made, C, N, rfl, h3, h1, h2⟩
  | n + 1, j, made, C, N, hg, h1, h2, h3 => by
    obtain ⟨r, c1, n1, g1, g2, g3⟩ := hg j (Nat.le_refl _) (by omega)
    unfold wcL
    rw [show go (of'.getD (pt.getD (3 * a + j) 0) 0) = some (r, c1, n1) from g1]
    cases r with
    | none =>
      dsimp only at g3 ⊢
      exact ⟨none, C + c1, N + n1, rfl, by omega, by show C + c1 ≤ 64 * (f + 1 + 1); omega⟩
    | some x =>
      dsimp only at g3 ⊢
      by_cases c : 16 < made.length + x.length
      · rw [if_pos c]
        exact ⟨none, C + c1, N + n1, rfl, by omega, by show C + c1 ≤ 64 * (f + 1 + 1); omega⟩
      · rw [if_neg c]
        exact wcL_ok n (j + 1) (made ++ x) (C + c1 + 1) (N + n1 + (made.length + x.length)) (fun i hi1 hi2 => hg i (by omega) (by omega)) (by rw [List.length_append]; omega) (by rw [List.length_append]; omega) (by omega)
theorem wcF_ok {ts : List (List Nat)} {of' pt : List Nat} {g : List Bool} {rk : Nat → Nat} (hR : ∀ c, g.getD c false = true → ∀ a, headF ts of' c = some a → ∀ j, j < pF (hdT ts a) → g.getD (pcl of' pt a j) false = true ∧ rk (pcl of' pt a j) < rk c) : ∀ (f c : Nat), g.getD c false = true → rk c < f → ∃ r C N, wcF ts of' pt f c = some (r, C, N) ∧ WB f r C N
  | 0, c, h1, h2 => by omega
  | f + 1, c, h1, h2 => by
    unfold wcF
    cases ho : headF ts of' c with
    | none => exact ⟨_, 1, 1, rfl, by decide, Nat.le_of_ble_eq_true rfl, rfl⟩
    | some a =>
      refine wcL_ok (pF (hdT ts a)) 0 [hdT ts a] 1 1 (fun i _ hi => ?_) (Nat.le_of_ble_eq_true rfl) rfl (by decide)
      obtain ⟨k1, k2⟩ := hR c h1 a ho i (by omega)
      exact wcF_ok hR f _ k1 (by omega)
theorem anF_ok {ts : List (List Nat)} {of' pt : List Nat} {F : Nat} (hW : ∀ k, k < ts.length → ∃ r C N, wcF ts of' pt F (of'.getD k 0) = some (r, C, N) ∧ WB F r C N) : ∀ (n k : Nat) (rows : List (List Nat)) (C N : Nat), k + n = ts.length → ∃ r C' N', anF ts of' pt F n k rows C N = some (r, C', N') ∧ C' ≤ C + 31 * n + 64 * (F + 1) ∧ N' ≤ N + 16 * (C' - C)
  | 0, k, rows, C, N, hk => ⟨some rows, C, N, rfl, by omega, by omega⟩
  | n + 1, k, rows, C, N, hk => by
    unfold anF
    by_cases c : 10 ≤ hdT ts k
    · rw [if_pos c]
      obtain ⟨r, C', N', h1, h2, h3⟩ := anF_ok hW n (k + 1) rows C N (by omega)
      exact ⟨r, C', N', h1, by omega, h3⟩
    · rw [if_neg c]
      obtain ⟨r, c1, n1, g1, g2, g3⟩ := hW k (by omega)
      rw [g1]
      cases r with
      | none =>
        dsimp only at g3 ⊢
        exact ⟨none, C + c1, N + n1, rfl, by omega, by omega⟩
      | some x =>
        dsimp only at g3 ⊢
        obtain ⟨r, C', N', h1, h2, h3⟩ := anF_ok hW n (k + 1) (rows.set (hdT ts k) x) (C + c1) (N + n1) (by omega)
        have := anF_mono _ _ _ _ _ _ _ _ h1
        exact ⟨r, C', N', h1, by omega, by omega⟩
end U76cl5
section U77cl6
/-! the reference's classes, 6: the terms; the constructor -/
def tsN (X : List Nat) : Nat → List (List Nat)
  | 0 => []
  | z + 1 => comeT (tsN X z) (sub' X z)
def ofN (X : List Nat) : Nat → List Nat
  | 0 => List.replicate 32 0
  | z + 1 => comeO (tsN X z) (ofN X z) (sub' X z)
theorem tsN_len (X : List Nat) : ∀ z, (tsN X z).length ≤ z
  | 0 => Nat.le_refl _
  | z + 1 => by
    have := tsN_len X z
    unfold tsN comeT
    split
    · omega
    · rw [List.length_append]
      show (tsN X z).length + 1 ≤ z + 1
      omega
theorem tsN_mem (X : List Nat) : ∀ z t, t ∈ tsN X z ↔ ∃ y, y < z ∧ t = sub' X y
  | 0, t => ⟨fun h => (by cases h), fun ⟨y, h, _⟩ => by omega⟩
  | z + 1, t => by
    have ih := tsN_mem X z t
    unfold tsN comeT
    split
    · rename_i c
      rw [ih]
      constructor
      · rintro ⟨y, h1, h2⟩
        exact ⟨y, by omega, h2⟩
      · rintro ⟨y, h1, h2⟩
        rcases Nat.lt_or_ge y z with q | q
        · exact ⟨y, q, h2⟩
        · have : y = z := by omega
          subst this
          rw [h2]
          exact (tsN_mem X y _).mp c
    · rw [List.mem_append, ih, List.mem_singleton]
      constructor
      · rintro (⟨y, h1, h2⟩ | h)
        · exact ⟨y, by omega, h2⟩
        · exact ⟨z, by omega, h⟩
      · rintro ⟨y, h1, h2⟩
        rcases Nat.lt_or_ge y z with q | q
        · exact Or.inl ⟨y, q, h2⟩
        · have : y = z := by omega
          subst this
          exact Or.inr h2
theorem ofN_len (X : List Nat) : ∀ z, (ofN X z).length = 32
  | 0 => List.length_replicate
  | z + 1 => by
    unfold ofN comeO
    split
    · exact ofN_len X z
    · rw [List.length_set]; exact ofN_len X z
theorem ofN_get (X : List Nat) : ∀ z, z ≤ 32 → ∀ k, k < (tsN X z).length → (ofN X z).getD k 0 = k
  | 0, _, k, hk => by simp [tsN] at hk
  | z + 1, hz, k, hk => by
    have ih := ofN_get X z (by omega)
    have h1 := tsN_len X z
    have h2 := ofN_len X z
    unfold tsN comeT at hk
    unfold ofN comeO
    split at hk
    · rename_i c
      rw [if_pos c]
      exact ih k hk
    · rename_i c
      rw [if_neg c, getD_set (by omega)]
      rw [List.length_append, List.length_singleton] at hk
      by_cases e : (tsN X z).length = k
      · rw [if_pos e, e]
      · rw [if_neg e]
        exact ih k (by omega)
theorem ex_min {ts : List (List Nat)} {t : List Nat} (h : t ∈ ts) : ∃ j : Nat, ts[j]? = some t ∧ ∀ i : Nat, i < j → ts[i]? ≠ some t := by
  induction ts with
  | nil => cases h
  | cons x r ih =>
    by_cases e : x = t
    · exact ⟨0, by rw [e]; rfl, fun i hi => by omega⟩
    · rcases List.mem_cons.mp h with z | z
      · exact absurd z.symm e
      · obtain ⟨j, j1, j2⟩ := ih z
        refine ⟨j + 1, by rw [List.getElem?_cons_succ]; exact j1, fun i hi => ?_⟩
        match i, hi with
        | 0, _ => exact fun z => e (Option.some.inj z)
        | i + 1, hi => rw [List.getElem?_cons_succ]; exact j2 i (by omega)
theorem ko_sub {X : List Nat} (hX : BX X) {p : Nat} (hp : p < X.length) : ∀ j, j ≤ ga X p → p + ko (sub' X p) 0 j = ko X p j
  | 0, _ => rfl
  | j + 1, hj => by
    have ih := ko_sub hX hp j (by omega)
    obtain ⟨k1, k2, k3, k4, k5⟩ := ko_mono hX hp (show j < ga X p by omega)
    obtain ⟨s1, s2⟩ := sub_sub hX hp (show p ≤ ko X p j by omega) k2
    rw [show ko X p j - p = ko (sub' X p) 0 j by omega] at s1
    show p + (ko (sub' X p) 0 j + tl (sub' X p) (ko (sub' X p) 0 j)) = ko X p j + tl X (ko X p j)
    omega
def PtX (ts : List (List Nat)) (pt : List Nat) (k j : Nat) : Prop := ∀ a i, a < ts.length → i < pF (hdT ts a) → (a < k ∨ (a = k ∧ i < j)) → ts[pt.getD (3 * a + i) 0]? = some (sub' (ts.getD a []) (ko (ts.getD a []) 0 i))
/-- what the constructor comes to -/
def InP (X : List Nat) (n1 : Nat) (ts : List (List Nat)) (of' pt : List Nat) (can : Bool) : Prop :=
  ts = tsN X X.length ∧ PtX ts pt ts.length 0 ∧ PtOk ts pt ∧ JI ts.length of' ∧ ∃ i0 i1 c1 g, ts[i0]? = some (sub' X 0) ∧ ts[i1]? = some (sub' X n1) ∧ joinF ts pt 33 (ofN X X.length) true i0 i1 = some (of', c1) ∧ rdF ts of' pt 33 (List.replicate ts.length false) = some g ∧ GI ts of' pt g ∧ can = (c1 && !rnF of' g ts.length 0)
theorem cl8_9 : Cond.classLink RX8 9 (cnm (aty 105)) ∈ WT := by rw [aty105]; exact WT_of (tbw_7 (List.mem_of_getElem? (i := 72) rfl)) rfl
section M77
variable {la : Launch} {D : va_G} {cA : Nat → ClassId} {B0 pa : Nat}
set_option maxHeartbeats 32000000 in
theorem c_init8 (h : AH) {o8 u1 u2 n1 : Nat} {X : List Nat} (hY : BY X n1) (ho : h o8 = some (10, [.null, .null, .null, .int 0, .int 0])) (hu1 : h u1 = some (IA (sub' X 0))) (hu2 : h u2 = some (IA (sub' X n1))) :
    CT la D cA B0 pa yX8_init cX8_init 6 none (rmD 36 36 704) [.ref o8, .ref u1, .ref u2] h (fun v h' => v = none ∧ (∃ T O Q ts of' pt can, CS h' o8 T O Q ts of' pt can ∧ InP X n1 ts of' pt can) ∧ Fo o8 h h') := by
  refine CT_of (by decide +kernel) (Nat.le_of_ble_eq_true rfl) ?_
  intro p e s m args below meth c X' E hr hlk hnm
  have dk : ∀ {pc : Nat} {q : Instr × Nat}, lkd DX8_init pc = some q → decode cX8_init pc = .ok q := lkd_ok DX8_init_ok
  have hX := hY.1
  have hN : X.length ≤ 32 := hX.2.2
  have y := hY.2
  have h0N : 0 < X.length := by omega
  have h1N : n1 < X.length := by omega
  have l1 := sub_len hX h0N
  have l2 := sub_len hX h1N
  have w1 := sub_TW hX h0N
  have w2 := sub_TW hX h1N
  have hm32 : (tsN X X.length).length ≤ 32 := by have := tsN_len X X.length; omega
  repeat refine fst1_ok X' (dk rfl) rfl ?_
  refine obj_ok X' ml8_obj (dk rfl) (Nat.le_of_ble_eq_true rfl) (Nat.le_of_ble_eq_true rfl) (Nat.le_of_ble_eq_true rfl) ?_
  repeat refine fst1_ok X' (dk rfl) rfl ?_
  refine newR_ok (N := 32) (kd := 105) X' E (by decide) cl8_9 (by decide) (dk rfl) (Nat.le_of_ble_eq_true rfl) (Nat.le_of_ble_eq_true rfl) (fun T hT hBT => ?_)
  have hoT : o8 ≠ T := fun z => by rw [← z, ho] at hT; cases hT
  have g1 : hup h T (105, List.replicate 32 Value.null) o8 = some (10, [.null, .null, .null, .int 0, .int 0]) := by rw [hup_ne _ _ hoT]; exact ho
  refine putf_ok X' flX8_11 ftX8_0 (Or.inr ⟨by rw [hnm]; rfl, RX8, TX8, 5, rfl, rfl⟩) rfl rfl (dk rfl) g1 (Nat.le_of_ble_eq_true rfl) ?_
  have F1 : Fo o8 h (hup (hup h T (105, List.replicate 32 Value.null)) o8 (10, [Value.null, .null, .null, .int 0, .int 0].set 0 (.ref T))) := fun b c hb e => by rw [hup_ne _ _ hb]; exact Ext.new hT _ _ _ e
  have a1 : hup (hup h T (105, List.replicate 32 Value.null)) o8 (10, [Value.null, .null, .null, .int 0, .int 0].set 0 (.ref T)) o8 = some (10, [.ref T, .null, .null, .int 0, .int 0]) := hup_self _ _ _
  have b1 : hup (hup h T (105, List.replicate 32 Value.null)) o8 (10, [Value.null, .null, .null, .int 0, .int 0].set 0 (.ref T)) T = some (105, filR [] 32) := by rw [hup_ne _ _ hoT.symm, hup_self, filR_0]
  generalize hup (hup h T (105, List.replicate 32 Value.null)) o8 (10, [Value.null, .null, .null, .int 0, .int 0].set 0 (.ref T)) = h1 at F1 a1 b1
  repeat refine fst1_ok X' (dk rfl) rfl ?_
  refine newI_ok (N := 32) X' (by decide) (dk rfl) (Nat.le_of_ble_eq_true rfl) (Nat.le_of_ble_eq_true rfl) (fun O hO hBO => ?_)
  have hoO : o8 ≠ O := fun z => by rw [← z, a1] at hO; cases hO
  have hTO : T ≠ O := fun z => by rw [← z, b1] at hO; cases hO
  have g2 : hup h1 O (100, List.replicate 32 (Value.int 0)) o8 = some (10, [.ref T, .null, .null, .int 0, .int 0]) := by rw [hup_ne _ _ hoO]; exact a1
  refine putf_ok X' flX8_17 ftX8_1 (Or.inr ⟨by rw [hnm]; rfl, RX8, TX8, 5, rfl, rfl⟩) rfl rfl (dk rfl) g2 (Nat.le_of_ble_eq_true rfl) ?_
  have F2 : Fo o8 h (hup (hup h1 O (100, List.replicate 32 (Value.int 0))) o8 (10, [Value.ref T, .null, .null, .int 0, .int 0].set 1 (.ref O))) := fun b c hb e => by rw [hup_ne _ _ hb]; exact Ext.new hO _ _ _ (F1 b c hb e)
  have a2 : hup (hup h1 O (100, List.replicate 32 (Value.int 0))) o8 (10, [Value.ref T, .null, .null, .int 0, .int 0].set 1 (.ref O)) o8 = some (10, [.ref T, .ref O, .null, .int 0, .int 0]) := hup_self _ _ _
  have b2 : hup (hup h1 O (100, List.replicate 32 (Value.int 0))) o8 (10, [Value.ref T, .null, .null, .int 0, .int 0].set 1 (.ref O)) T = some (105, filR [] 32) := by rw [hup_ne _ _ hoT.symm, hup_ne _ _ hTO]; exact b1
  have c2 : hup (hup h1 O (100, List.replicate 32 (Value.int 0))) o8 (10, [Value.ref T, .null, .null, .int 0, .int 0].set 1 (.ref O)) O = some (IA (List.replicate 32 0)) := by rw [hup_ne _ _ hoO.symm, hup_self, IA, List.map_replicate]; rfl
  have hOn : h O = none := by
    cases hz : h O with
    | none => rfl
    | some c => have := F1 O c hoO.symm hz; rw [hO] at this; cases this
  generalize hup (hup h1 O (100, List.replicate 32 (Value.int 0))) o8 (10, [Value.ref T, .null, .null, .int 0, .int 0].set 1 (.ref O)) = h2 at F2 a2 b2 c2
  repeat refine fst1_ok X' (dk rfl) rfl ?_
  refine newI_ok (N := 96) X' (by decide) (dk rfl) (Nat.le_of_ble_eq_true rfl) (Nat.le_of_ble_eq_true rfl) (fun Q hQ hBQ => ?_)
  have hoQ : o8 ≠ Q := fun z => by rw [← z, a2] at hQ; cases hQ
  have hTQ : T ≠ Q := fun z => by rw [← z, b2] at hQ; cases hQ
  have hOQ : O ≠ Q := fun z => by rw [← z, c2] at hQ; cases hQ
  have g3 : hup h2 Q (100, List.replicate 96 (Value.int 0)) o8 = some (10, [.ref T, .ref O, .null, .int 0, .int 0]) := by rw [hup_ne _ _ hoQ]; exact a2
  refine putf_ok X' flX8_20 ftX8_2 (Or.inr ⟨by rw [hnm]; rfl, RX8, TX8, 5, rfl, rfl⟩) rfl rfl (dk rfl) g3 (Nat.le_of_ble_eq_true rfl) ?_
  have F3 : Fo o8 h (hup (hup h2 Q (100, List.replicate 96 (Value.int 0))) o8 (10, [Value.ref T, .ref O, .null, .int 0, .int 0].set 2 (.ref Q))) := fun b c hb e => by rw [hup_ne _ _ hb]; exact Ext.new hQ _ _ _ (F2 b c hb e)
  have a3 : hup (hup h2 Q (100, List.replicate 96 (Value.int 0))) o8 (10, [Value.ref T, .ref O, .null, .int 0, .int 0].set 2 (.ref Q)) o8 = some (10, [.ref T, .ref O, .ref Q, .int 0, .int 0]) := hup_self _ _ _
  have b3 : hup (hup h2 Q (100, List.replicate 96 (Value.int 0))) o8 (10, [Value.ref T, .ref O, .null, .int 0, .int 0].set 2 (.ref Q)) T = some (105, filR [] 32) := by rw [hup_ne _ _ hoT.symm, hup_ne _ _ hTQ]; exact b2
  have c3 : hup (hup h2 Q (100, List.replicate 96 (Value.int 0))) o8 (10, [Value.ref T, .ref O, .null, .int 0, .int 0].set 2 (.ref Q)) O = some (IA (List.replicate 32 0)) := by rw [hup_ne _ _ hoO.symm, hup_ne _ _ hOQ]; exact c2
  have d3 : hup (hup h2 Q (100, List.replicate 96 (Value.int 0))) o8 (10, [Value.ref T, .ref O, .null, .int 0, .int 0].set 2 (.ref Q)) Q = some (IA (List.replicate 96 0)) := by rw [hup_ne _ _ hoQ.symm, hup_self, IA, List.map_replicate]; rfl
  have hQn : h Q = none := by
    cases hz : h Q with
    | none => rfl
    | some c => have := F2 Q c hoQ.symm hz; rw [hQ] at this; cases this
  generalize hup (hup h2 Q (100, List.replicate 96 (Value.int 0))) o8 (10, [Value.ref T, .ref O, .null, .int 0, .int 0].set 2 (.ref Q)) = h3 at F3 a3 b3 c3 d3
  repeat refine fst1_ok X' (dk rfl) rfl ?_
  refine putf_ok X' flX8_23 ftX8_4 (Or.inl rfl) rfl rfl (dk rfl) a3 (Nat.le_of_ble_eq_true rfl) ?_
  have M4 : CS (hup h3 o8 (10, [Value.ref T, .ref O, .ref Q, .int 0, .int 0].set 4 (.int (Int32.ofInt 1)))) o8 T O Q (tsN X 0) (ofN X 0) (List.replicate 96 0) true := by
    refine ⟨hup_self _ _ _, ⟨[], rfl, by rw [hup_ne _ _ hoT.symm]; exact b3, fun k r hk => by simp [tsN] at hk⟩, by rw [hup_ne _ _ hoO.symm]; exact c3, by rw [hup_ne _ _ hoQ.symm]; exact d3, hOQ, List.length_replicate, List.length_replicate, Nat.zero_le _, fun t ht => by simp [tsN] at ht, fun x hx => ?_, fun x hx => ?_⟩
    · have := (List.mem_replicate.mp hx).2; omega
    · have := (List.mem_replicate.mp hx).2; omega
  have F4 : Fo o8 h (hup h3 o8 (10, [Value.ref T, .ref O, .ref Q, .int 0, .int 0].set 4 (.int (Int32.ofInt 1)))) := fun b c hb e => by rw [hup_ne _ _ hb]; exact F3 b c hb e
  generalize hup h3 o8 (10, [Value.ref T, .ref O, .ref Q, .int 0, .int 0].set 4 (.int (Int32.ofInt 1))) = h4 at M4 F4
  show WR p la e (rmD 36 36 704) s m args below meth c D cA B0 6 (fun v h' => v = none ∧ (∃ T O Q ts of' pt can, CS h' o8 T O Q ts of' pt can ∧ InP X n1 ts of' pt can) ∧ Fo o8 h h') 34 _ [] h4 3 160
  have FoC : ∀ {hh hh' : AH}, Fo o8 h hh → Fc o8 T O Q hh hh' → Fo o8 h hh' := fun {hh hh'} a b x c hx e => b x c hx (fun z => by rw [z, hT] at e; cases e) (fun z => by rw [z, hOn] at e; cases e) (fun z => by rw [z, hQn] at e; cases e) (a x c hx e)
  have FoE : ∀ {hh hh' : AH}, Fo o8 h hh → Ext hh hh' → Fo o8 h hh' := fun a b x c hx e => b x c (a x c hx e)
  have hu1o : u1 ≠ o8 := k_ne hu1 ho (by decide)
  have hu2o : u2 ≠ o8 := k_ne hu2 ho (by decide)
  -- one more term comes
  have comeC : ∀ (hh : AH) (z q : Nat), z < X.length → CS hh o8 T O Q (tsN X z) (ofN X z) (List.replicate 96 0) true → hh q = none → CT la D cA B0 pa yX8_come cX8_come 3 none (rmD 3 0 0) [.ref o8, .ref q] (hup hh q (IA (sub' X z))) (fun v h' => v = none ∧ CS h' o8 T O Q (tsN X (z + 1)) (ofN X (z + 1)) (List.replicate 96 0) true ∧ Fc o8 T O Q (hup hh q (IA (sub' X z))) h') := by
    intro hh z q hz M hq
    have := tsN_len X z
    exact c_come _ (M.ext (Ext.new hq _)) (hup_self _ _ _) (fun z => by rw [z, M.2.2.1] at hq; cases hq) (fun z => by rw [z, M.2.2.2.1] at hq; cases hq) ⟨sub_TW hX hz, by rw [sub_len hX hz]; exact hY.tl16 hz⟩ (fun _ => by omega)
  -- the tail: joining, and whether it is round
  have tail : ∀ (hh : AH) (pt : List Nat) (l : List (Nat × Value)), lsel l [2, 1, 0] = [(2, .ref u2), (1, .ref u1), (0, .ref o8)] → CS hh o8 T O Q (tsN X X.length) (ofN X X.length) pt true → PtX (tsN X X.length) pt (tsN X X.length).length 0 → PtOk (tsN X X.length) pt → Fo o8 h hh → WR p la e (rmD 36 36 704) s m args below meth c D cA B0 6 (fun v h' => v = none ∧ (∃ T O Q ts of' pt can, CS h' o8 T O Q ts of' pt can ∧ InP X n1 ts of' pt can) ∧ Fo o8 h h') 160 l [] hh 35 672 := by
    intro hh pt l hl MM hPX hP FF
    obtain ⟨i0, p1, p2⟩ := ex_min ((tsN_mem X X.length (sub' X 0)).mpr ⟨0, h0N, rfl⟩)
    obtain ⟨i1, q1, q2⟩ := ex_min ((tsN_mem X X.length (sub' X n1)).mpr ⟨n1, h1N, rfl⟩)
    have i0l := (List.getElem?_eq_some_iff.mp p1).1
    have i1l := (List.getElem?_eq_some_iff.mp q1).1
    have k1 := FF _ _ hu1o hu1
    have k2 := FF _ _ hu2o hu2
    have J0 : JI (tsN X X.length).length (ofN X X.length) := ⟨ofN_len X _, fun k hk => by
      have e := ofN_get X X.length hN k hk
      rw [e, e]
      exact ⟨hk, rfl⟩⟩
    have hfx := fxN_le (tsN X X.length).length (ofN X X.length)
    obtain ⟨o2, c2', J1, J2, J3⟩ := joinF_ok hm32 hP 33 (ofN X X.length) true i0 i1 J0 i0l i1l (by omega)
    have hOf : OfOk (tsN X X.length) o2 := fun k hk => (J2.2 k hk).1
    obtain ⟨g, R1, R2, R3⟩ := rdF_ok hOf 33 (List.replicate (tsN X X.length).length false) List.length_replicate (GI_0 _ _ _) (by omega)
    have s0 : sub' (sub' X 0) 0 = sub' X 0 := (sub_sub hX h0N (Nat.zero_le 0) (by omega)).2
    have s1 : sub' (sub' X n1) 0 = sub' X n1 := by
      have := (sub_sub hX h1N (Nat.le_refl n1) (by omega)).2
      rw [Nat.sub_self] at this
      exact this
    refine WS.sel [2, 1, 0] hl ?_
    repeat refine fst1_ok X' (dk rfl) rfl ?_
    refine callV_ok (ci := 10) (T := TX8) (N := 5) (av := [.ref u1, vI 0]) (r := [.ref o8]) X' E (c_number hh MM (pl := 0) k1 ⟨w1, by omega⟩ (by omega) (by rw [s0]; exact p1) (by rw [s0]; exact p2)) lkX8_number mlX8_43 lmX8_number lpX8_number ⟨Nat.le_of_ble_eq_true rfl, Nat.le_of_ble_eq_true rfl⟩ ⟨Nat.le_of_ble_eq_true rfl, Nat.le_of_ble_eq_true rfl⟩ rfl MM.1 (Nat.le_of_ble_eq_true rfl) (dk rfl) ?_
    rintro v h5 ⟨rfl, rfl⟩
    repeat refine fst1_ok X' (dk rfl) rfl ?_
    refine callV_ok (ci := 10) (T := TX8) (N := 5) (av := [.ref u2, vI 0]) (r := [vI i0, .ref o8]) X' E (c_number h5 MM (pl := 0) k2 ⟨w2, by omega⟩ (by omega) (by rw [s1]; exact q1) (by rw [s1]; exact q2)) lkX8_number mlX8_43 lmX8_number lpX8_number ⟨Nat.le_of_ble_eq_true rfl, Nat.le_of_ble_eq_true rfl⟩ ⟨Nat.le_of_ble_eq_true rfl, Nat.le_of_ble_eq_true rfl⟩ rfl MM.1 (Nat.le_of_ble_eq_true rfl) (dk rfl) ?_
    rintro v h6 ⟨rfl, rfl⟩
    refine callV_ok (ci := 10) (T := TX8) (N := 5) (av := [vI i0, vI i1]) (r := []) X' E (c_join hP 33 h6 _ true i0 i1 o2 c2' MM i0l i1l J1) lkX8_join mlX8_50 lmX8_join lpX8_join ⟨Nat.le_of_ble_eq_true rfl, Nat.le_of_ble_eq_true rfl⟩ ⟨Nat.le_of_ble_eq_true rfl, Nat.le_of_ble_eq_true rfl⟩ rfl MM.1 (Nat.le_of_ble_eq_true rfl) (dk rfl) ?_
    rintro v h7 ⟨rfl, M7, F7⟩
    have FF7 := FoC FF F7
    have fin9 : ∀ (b : Bool) (hz : AH), b = (c2' && !rnF o2 g (tsN X X.length).length 0) → CS hz o8 T O Q (tsN X X.length) o2 pt c2' → Fo o8 h hz → ∀ l : List (Nat × Value), WR p la e (rmD 36 36 704) s m args below meth c D cA B0 6 (fun v h' => v = none ∧ (∃ T O Q ts of' pt can, CS h' o8 T O Q ts of' pt can ∧ InP X n1 ts of' pt can) ∧ Fo o8 h h') 196 l [.int (bI b), .ref o8] hz 36 704 := by
      intro b hz hb Mz Fz l
      refine putf_ok X' flX8_23 ftX8_4 (Or.inl rfl) (by cases b <;> rfl) (by cases b <;> rfl) (dk rfl) Mz.1 (Nat.le_of_ble_eq_true rfl) ?_
      refine retv_ok X' hr hlk (dk rfl) ⟨rfl, ⟨T, O, Q, _, o2, pt, b, Mz.setC b, rfl, hPX, hP, J2, i0, i1, c2', g, p1, q1, J1, R1, R2, hb⟩, fun x c hx e => by rw [hup_ne _ _ hx]; exact Fz x c hx e⟩ (Nat.le_refl _) (Nat.le_refl _)
    repeat refine fst1_ok X' (dk rfl) rfl ?_
    refine getf_ok X' flX8_23 (dk rfl) M7.1 rfl ?_
    cases hc : c2' with
    | false =>
      rw [hc] at fin9 M7
      refine br_ok X' (dk rfl) rfl (show ((181 : Nat) : Int) + 14 = ((195 : Nat) : Int) from rfl) (fun _ => ?_) (fun q => absurd bI_f' q)
      refine fst1_ok X' (dk rfl) rfl ?_
      refine WS.widen (k' := 36) (n' := 704) (Nat.le_of_ble_eq_true rfl) (Nat.le_of_ble_eq_true rfl) ?_
      exact fin9 false h7 rfl M7 FF7 _
    | true =>
      rw [hc] at fin9 M7
      refine br_ok X' (dk rfl) rfl (show ((181 : Nat) : Int) + 14 = ((195 : Nat) : Int) from rfl) (fun q => absurd q bI_t) (fun _ => ?_)
      refine fst1_ok X' (dk rfl) rfl ?_
      refine callV_ok (ci := 10) (T := TX8) (N := 5) (av := []) (r := [.ref o8]) X' E (c_isRound h7 M7 hP hOf R1) lkX8_isRound mlX8_54 lmX8_isRound lpX8_isRound ⟨Nat.le_of_ble_eq_true rfl, Nat.le_of_ble_eq_true rfl⟩ ⟨Nat.le_of_ble_eq_true rfl, Nat.le_of_ble_eq_true rfl⟩ rfl M7.1 (Nat.le_of_ble_eq_true rfl) (dk rfl) ?_
      rintro v h8 ⟨rfl, X8⟩
      cases hb : rnF o2 g (tsN X X.length).length 0 with
      | true =>
        rw [hb] at fin9
        refine br_ok X' (dk rfl) rfl (show ((188 : Nat) : Int) + 7 = ((195 : Nat) : Int) from rfl) (fun _ => ?_) (fun q => absurd bI_t q)
        refine fst1_ok X' (dk rfl) rfl ?_
        exact fin9 false h8 rfl (M7.ext X8) (FoE FF7 X8) _
      | false =>
        rw [hb] at fin9
        refine br_ok X' (dk rfl) rfl (show ((188 : Nat) : Int) + 7 = ((195 : Nat) : Int) from rfl) (fun q => absurd q bI_f) (fun _ => ?_)
        refine fst1_ok X' (dk rfl) rfl ?_
        refine br_ok X' (dk rfl) rfl (show ((192 : Nat) : Int) + 4 = ((196 : Nat) : Int) from rfl) (fun _ => ?_) (fun q => absurd trivial q)
        exact fin9 true h8 rfl (M7.ext X8) (FoE FF7 X8) _
  -- the parts of all terms
  have hTm : ∀ k, k < (tsN X X.length).length → ∃ z, z < X.length ∧ (tsN X X.length)[k]? = some (sub' X z) ∧ (tsN X X.length).getD k [] = sub' X z ∧ hdT (tsN X X.length) k = gl X z := by
    intro k hk
    obtain ⟨t, ht⟩ : ∃ t, (tsN X X.length)[k]? = some t := ⟨_, List.getElem?_eq_getElem hk⟩
    obtain ⟨z, z1, z2⟩ := (tsN_mem X X.length t).mp (List.mem_of_getElem? ht)
    rw [z2] at ht
    have e : (tsN X X.length).getD k [] = sub' X z := by rw [List.getD_eq_getElem?_getD, ht]; rfl
    refine ⟨z, z1, ht, e, ?_⟩
    unfold hdT
    rw [e, sub_cons hX z1]
    rfl
  have hpf3 : ∀ k, k < (tsN X X.length).length → pF (hdT (tsN X X.length) k) ≤ 3 := by
    intro k hk
    obtain ⟨z, z1, z2, z3, z4⟩ := hTm k hk
    rw [z4]
    exact ga_le hX z1
  have loop3 : ∀ (d k : Nat) (hh : AH) (pt : List Nat) (l : List (Nat × Value)), lsel l [3, 2, 1, 0] = [(3, vI k), (2, .ref u2), (1, .ref u1), (0, .ref o8)] → k + d = (tsN X X.length).length → CS hh o8 T O Q (tsN X X.length) (ofN X X.length) pt true → PtX (tsN X X.length) pt k 0 → Fo o8 h hh → WR p la e (rmD 36 36 704) s m args below meth c D cA B0 6 (fun v h' => v = none ∧ (∃ T O Q ts of' pt can, CS h' o8 T O Q ts of' pt can ∧ InP X n1 ts of' pt can) ∧ Fo o8 h h') 82 l [] hh 35 672 := by
    intro d
    induction d with
    | zero =>
      intro k hh pt l hl hk MM hPX FF
      have hkt : k = (tsN X X.length).length := by omega
      subst hkt
      refine WS.sel [3, 2, 1, 0] hl ?_
      repeat refine fst1_ok X' (dk rfl) rfl ?_
      refine getf_ok X' flX8_35 (dk rfl) MM.1 rfl ?_
      refine br_ok X' (dk rfl) rfl (show ((87 : Nat) : Int) + 73 = ((160 : Nat) : Int) from rfl) (fun _ => ?_) (fun c1 => absurd ((nI_leI (by omega) (by omega)).mpr (by omega)) c1)
      refine tail hh pt _ rfl MM hPX (fun a ha j hj => ?_) FF
      exact (List.getElem?_eq_some_iff.mp (hPX a j ha hj (Or.inl ha))).1
    | succ d ih =>
      intro k hh pt l hl hk MM hPX FF
      have hkl : k < (tsN X X.length).length := by omega
      have f2 : Value.int (nI k + Int32.ofInt 1) = vI (k + 1) := congrArg Value.int (by rw [nI_1', nI_add])
      obtain ⟨z, z1, z2, z3, z4⟩ := hTm k hkl
      have hp3 := hpf3 k hkl
      refine WS.sel [3, 2, 1, 0] hl ?_
      repeat refine fst1_ok X' (dk rfl) rfl ?_
      refine getf_ok X' flX8_35 (dk rfl) MM.1 rfl ?_
      refine br_ok X' (dk rfl) rfl (show ((87 : Nat) : Int) + 73 = ((160 : Nat) : Int) from rfl) (fun c1 => absurd (nI_ge' (by omega) (by omega) c1) (by omega)) (fun _ => ?_)
      have inner : ∀ (n j : Nat) (hh : AH) (pt : List Nat) (l : List (Nat × Value)), lsel l [5, 4, 3, 2, 1, 0] = [(5, vI j), (4, vI (ko (sub' X z) 0 j)), (3, vI k), (2, .ref u2), (1, .ref u1), (0, .ref o8)] → j + n = pF (hdT (tsN X X.length) k) → CS hh o8 T O Q (tsN X X.length) (ofN X X.length) pt true → PtX (tsN X X.length) pt k j → Fo o8 h hh → WR p la e (rmD 36 36 704) s m args below meth c D cA B0 6 (fun v h' => v = none ∧ (∃ T O Q ts of' pt can, CS h' o8 T O Q ts of' pt can ∧ InP X n1 ts of' pt can) ∧ Fo o8 h h') 96 l [] hh 35 672 := by
        intro n
        induction n with
        | zero =>
          intro j hh pt l hl hj MM hPX FF
          obtain ⟨vs6, q6, r6, x, n1', n2, n3, n4, n5, n6, n7, n8, n9, n10⟩ := MM.term hkl
          have ex : hdT (tsN X X.length) k = x := n9
          have hx := n8.lt
          refine WS.sel [5, 4, 3, 2, 1, 0] hl ?_
          repeat refine fst1_ok X' (dk rfl) rfl ?_
          refine getf_ok X' flX8_11 (dk rfl) MM.1 rfl ?_
          refine fst1_ok X' (dk rfl) rfl ?_
          refine ld5_ok X' (dk rfl) n1' n2 (by omega) ?_
          refine fst1_ok X' (dk rfl) rfl ?_
          refine ald_ok X' (Or.inl ⟨rfl, rfl⟩) (dk rfl) n4 (inA_nI (j := 0) (by omega) (IA_get n7)) ?_
          refine callSN_ok (av := [vI x]) (r := [vI j]) X' E (c_parts hh (by omega)) lkX10_parts mnX8_39 lsX10_parts ⟨Nat.le_of_ble_eq_true rfl, Nat.le_of_ble_eq_true rfl⟩ ⟨Nat.le_of_ble_eq_true rfl, Nat.le_of_ble_eq_true rfl⟩ (Nat.le_of_ble_eq_true rfl) (dk rfl) ?_
          rintro v h5 ⟨rfl, rfl⟩
          refine br_ok X' (dk rfl) rfl (show ((109 : Nat) : Int) + 45 = ((154 : Nat) : Int) from rfl) (fun _ => ?_) (fun c1 => absurd ((nI_leI (by rw [← ex]; omega) (by omega)).mpr (by rw [← ex]; omega)) c1)
          repeat refine fst1_ok X' (dk rfl) rfl ?_
          refine br_ok X' (dk rfl) rfl (show ((157 : Nat) : Int) + (-75) = ((82 : Nat) : Int) from rfl) (fun _ => ?_) (fun q => absurd trivial q)
          refine WS.sel (l' := [(3, vI (k + 1)), (2, .ref u2), (1, .ref u1), (0, .ref o8)]) [3, 2, 1, 0] (by rw [← f2]; rfl) ?_
          refine ih (k + 1) h5 pt _ rfl (by omega) MM (fun a i ha hi hc => ?_) FF
          refine hPX a i ha hi ?_
          rcases hc with hc | hc
          · rcases Nat.lt_or_ge a k with q | q
            · exact Or.inl q
            · have : a = k := by omega
              subst this
              exact Or.inr ⟨rfl, by omega⟩
          · omega
        | succ n ihn =>
          intro j hh pt l hl hj MM hPX FF
          obtain ⟨vs6, q6, r6, x, n1', n2, n3, n4, n5, n6, n7, n8, n9, n10⟩ := MM.term hkl
          have ex : hdT (tsN X X.length) k = x := n9
          have hx := n8.lt
          have er : r6 = sub' X z := by rw [← n10, z3]
          subst er
          have f3 : Value.int (nI j + Int32.ofInt 1) = vI (j + 1) := congrArg Value.int (by rw [nI_1', nI_add])
          have jga : j < ga X z := by show j < pF (gl X z); rw [← z4]; omega
          obtain ⟨k1, k2, k3, k4, k5⟩ := ko_mono hX z1 jga
          have kk := ko_sub hX z1 j (by omega)
          have kk1 := ko_sub hX z1 (j + 1) (by omega)
          have ll := sub_len hX z1
          have t16 := hY.tl16 z1
          obtain ⟨s1, s2⟩ := sub_sub hX z1 (show z ≤ ko X z j by omega) k2
          rw [show ko X z j - z = ko (sub' X z) 0 j by omega] at s1 s2
          obtain ⟨i, i1, i2⟩ := ex_min ((tsN_mem X X.length (sub' X (ko X z j))).mpr ⟨_, k5, rfl⟩)
          have il := (List.getElem?_eq_some_iff.mp i1).1
          obtain ⟨o1, o2, o3, o4, o5⟩ := sub_ok n5 n6 (show ko (sub' X z) 0 j < (sub' X z).length by omega)
          refine WS.sel [5, 4, 3, 2, 1, 0] hl ?_
          repeat refine fst1_ok X' (dk rfl) rfl ?_
          refine getf_ok X' flX8_11 (dk rfl) MM.1 rfl ?_
          refine fst1_ok X' (dk rfl) rfl ?_
          refine ld5_ok X' (dk rfl) n1' n2 (by omega) ?_
          refine fst1_ok X' (dk rfl) rfl ?_
          refine ald_ok X' (Or.inl ⟨rfl, rfl⟩) (dk rfl) n4 (inA_nI (j := 0) (by omega) (IA_get n7)) ?_
          refine callSN_ok (av := [vI x]) (r := [vI j]) X' E (c_parts hh (by omega)) lkX10_parts mnX8_39 lsX10_parts ⟨Nat.le_of_ble_eq_true rfl, Nat.le_of_ble_eq_true rfl⟩ ⟨Nat.le_of_ble_eq_true rfl, Nat.le_of_ble_eq_true rfl⟩ (Nat.le_of_ble_eq_true rfl) (dk rfl) ?_
          rintro v h5 ⟨rfl, rfl⟩
          refine br_ok X' (dk rfl) rfl (show ((109 : Nat) : Int) + 45 = ((154 : Nat) : Int) from rfl) (fun c1 => absurd (nI_ge' (by omega) (by rw [← ex]; omega) c1) (by rw [← ex]; omega)) (fun _ => ?_)
          refine fst1_ok X' (dk rfl) rfl ?_
          refine getf_ok X' flX8_20 (dk rfl) MM.1 rfl ?_
          repeat refine fst1_ok X' (dk rfl) rfl ?_
          refine getf_ok X' flX8_11 (dk rfl) MM.1 rfl ?_
          refine fst1_ok X' (dk rfl) rfl ?_
          refine ld5_ok X' (dk rfl) n1' n2 (by omega) ?_
          refine fst1_ok X' (dk rfl) rfl ?_
          rw [nI_3', nI_mul, nI_add]
          refine callV_ok (ci := 10) (T := TX8) (N := 5) (av := [.ref q6, vI (ko (sub' X z) 0 j)]) (r := [vI (3 * k + j), .ref Q]) X' E (c_number h5 MM n4 ⟨n5, n6⟩ (by omega) (by rw [s2]; exact i1) (by rw [s2]; exact i2)) lkX8_number mlX8_43 lmX8_number lpX8_number ⟨Nat.le_of_ble_eq_true rfl, Nat.le_of_ble_eq_true rfl⟩ ⟨Nat.le_of_ble_eq_true rfl, Nat.le_of_ble_eq_true rfl⟩ rfl MM.1 (Nat.le_of_ble_eq_true rfl) (dk rfl) ?_
          rintro v h6 ⟨rfl, rfl⟩
          have lpt : pt.length = 96 := MM.2.2.2.2.2.2.1
          refine sti_ok X' (dk rfl) MM.2.2.2.1 (by rw [List.length_map]; omega) (by rw [List.length_map]; omega) ?_
          have M7 := MM.setQ (k := 3 * k + j) (x := i) (by omega)
          have F7 : Fo o8 h (hup h6 Q (100, (pt.map vI).set (3 * k + j) (vI i))) := FoC FF ((Fc.rf h6).set (Or.inr (Or.inr (Or.inr rfl))) _)
          show WR p la e (rmD 36 36 704) s m args below meth c D cA B0 6 _ 135 _ [] (hup h6 Q (100, (pt.map vI).set (3 * k + j) (vI i))) 35 672
          have n4' : hup h6 Q (100, (pt.map vI).set (3 * k + j) (vI i)) q6 = some (IA (sub' X z)) := by
            obtain ⟨as, e1, e2, e3⟩ := MM.2.1
            obtain ⟨a9, f1, f2', f3', f4⟩ := e3 k _ n3
            have : a9 = q6 := by
              rw [e2] at n1'
              cases n1'
              have := filR_get (N := 32) f1
              rw [this] at n2
              cases n2
              rfl
            rw [hup_ne _ _ (by rw [← this]; exact f3')]
            exact n4
          have n1'' : hup h6 Q (100, (pt.map vI).set (3 * k + j) (vI i)) T = some (105, vs6) := by rw [hup_ne _ _ hTQ]; exact n1'
          generalize hup h6 Q (100, (pt.map vI).set (3 * k + j) (vI i)) = h7 at M7 F7 n4' n1''
          refine fst1_ok X' (dk rfl) rfl ?_
          refine getf_ok X' flX8_11 (dk rfl) M7.1 rfl ?_
          refine fst1_ok X' (dk rfl) rfl ?_
          refine ld5_ok X' (dk rfl) n1'' n2 (by omega) ?_
          refine fst1_ok X' (dk rfl) rfl ?_
          refine callSN_ok (av := [.ref q6, vI (ko (sub' X z) 0 j)]) (r := []) X' E (c_end h7 n4' n5.lt (by omega) o1) lkX10_end mnX8_47 lsX10_end ⟨Nat.le_of_ble_eq_true rfl, Nat.le_of_ble_eq_true rfl⟩ ⟨Nat.le_of_ble_eq_true rfl, Nat.le_of_ble_eq_true rfl⟩ (Nat.le_of_ble_eq_true rfl) (dk rfl) ?_
          rintro v h8 ⟨rfl, rfl⟩
          repeat refine fst1_ok X' (dk rfl) rfl ?_
          refine br_ok X' (dk rfl) rfl (show ((151 : Nat) : Int) + (-55) = ((96 : Nat) : Int) from rfl) (fun _ => ?_) (fun q => absurd trivial q)
          refine WS.sel (l' := [(5, vI (j + 1)), (4, vI (ko (sub' X z) 0 (j + 1))), (3, vI k), (2, .ref u2), (1, .ref u1), (0, .ref o8)]) [5, 4, 3, 2, 1, 0] (by rw [← f3]; rfl) ?_
          refine ihn (j + 1) h8 _ _ rfl (by omega) M7 (fun a i' ha hi hc => ?_) F7
          have ha3 := hpf3 a ha
          rw [getD_set (by omega)]
          by_cases ee : 3 * k + j = 3 * a + i'
          · have e1 : a = k := by omega
            have e2 : i' = j := by omega
            subst e1
            subst e2
            rw [if_pos rfl, z3, s2]
            exact i1
          · rw [if_neg ee]
            refine hPX a i' ha hi ?_
            rcases hc with hc | hc
            · exact Or.inl hc
            · refine Or.inr ⟨hc.1, ?_⟩
              have : i' ≠ j := fun z => ee (by rw [z, hc.1])
              omega
      iterate 4 refine fst1_ok X' (dk rfl) rfl ?_
      exact inner (pF (hdT (tsN X X.length) k)) 0 hh pt _ rfl (Nat.zero_add _) MM hPX FF
  -- the terms of the second one
  have loop2 : ∀ (d i : Nat) (hh : AH) (l : List (Nat × Value)), lsel l [3, 2, 1, 0] = [(3, vI i), (2, .ref u2), (1, .ref u1), (0, .ref o8)] → i + d = (sub' X n1).length → CS hh o8 T O Q (tsN X (n1 + i)) (ofN X (n1 + i)) (List.replicate 96 0) true → Fo o8 h hh → WR p la e (rmD 36 36 704) s m args below meth c D cA B0 6 (fun v h' => v = none ∧ (∃ T O Q ts of' pt can, CS h' o8 T O Q ts of' pt can ∧ InP X n1 ts of' pt can) ∧ Fo o8 h h') 59 l [] hh (3 + n1 + i) (160 + 16 * n1 + 16 * i) := by
    have lm : ((sub' X n1).map vI).length = (sub' X n1).length := List.length_map _
    intro d
    induction d with
    | zero =>
      intro i hh l hl hi MM FF
      have k2 := FF _ _ hu2o hu2
      refine WS.sel [3, 2, 1, 0] hl ?_
      repeat refine fst1_ok X' (dk rfl) rfl ?_
      refine alen_ok X' (by decide) (dk rfl) k2 ?_
      rw [lm]
      refine br_ok X' (dk rfl) rfl (show ((62 : Nat) : Int) + 18 = ((80 : Nat) : Int) from rfl) (fun _ => ?_) (fun c1 => absurd ((nI_leI (by omega) (by omega)).mpr (by omega)) c1)
      iterate 2 refine fst1_ok X' (dk rfl) rfl ?_
      refine WS.widen (k' := 35) (n' := 672) (by omega) (by omega) ?_
      have eN : n1 + i = X.length := by omega
      rw [eN] at MM
      exact loop3 _ 0 hh _ _ rfl (Nat.zero_add _) MM (fun a i ha hi hc => by omega) FF
    | succ d ih =>
      intro i hh l hl hi MM FF
      have k2 := FF _ _ hu2o hu2
      have f2 : Value.int (nI i + Int32.ofInt 1) = vI (i + 1) := congrArg Value.int (by rw [nI_1', nI_add])
      obtain ⟨o1, o2, o3, o4, o5⟩ := sub_ok w2 (by omega) (show i < (sub' X n1).length by omega)
      have hiN : n1 + i < X.length := by omega
      have es : ((sub' X n1).drop i).take (tl (sub' X n1) i) = sub' X (n1 + i) := by
        have := (sub_sub hX h1N (show n1 ≤ n1 + i by omega) (by omega)).2
        rw [show n1 + i - n1 = i by omega] at this
        exact this
      refine WS.sel [3, 2, 1, 0] hl ?_
      repeat refine fst1_ok X' (dk rfl) rfl ?_
      refine alen_ok X' (by decide) (dk rfl) k2 ?_
      rw [lm]
      refine br_ok X' (dk rfl) rfl (show ((62 : Nat) : Int) + 18 = ((80 : Nat) : Int) from rfl) (fun c1 => absurd (nI_ge' (by omega) (by omega) c1) (by omega)) (fun _ => ?_)
      repeat refine fst1_ok X' (dk rfl) rfl ?_
      refine callSN_ok (av := [.ref u2, vI i]) (r := [.ref o8]) X' E (c_at hh k2 w2.lt (by omega) o1) lkX10_at mnX8_27 lsX10_at ⟨Nat.le_of_ble_eq_true rfl, Nat.le_of_ble_eq_true rfl⟩ ⟨by show 3 + n1 + i + 1 ≤ 36; omega, by show 160 + 16 * n1 + 16 * i + tl (sub' X n1) i ≤ 704; omega⟩ (Nat.le_of_ble_eq_true rfl) (dk rfl) ?_
      rintro v h5 ⟨q, rfl, hq, hBq, rfl⟩
      rw [es]
      refine WS.widen (k' := 3 + n1 + (i + 1)) (n' := 160 + 16 * n1 + 16 * (i + 1)) (by show 3 + n1 + i + 1 ≤ 3 + n1 + (i + 1); omega) (by show 160 + 16 * n1 + 16 * i + tl (sub' X n1) i ≤ 160 + 16 * n1 + 16 * (i + 1); omega) ?_
      refine callV_ok (ci := 10) (T := TX8) (N := 5) (av := [.ref q]) (r := []) X' E (comeC hh (n1 + i) q hiN MM hq) lkX8_come mlX8_31 lmX8_come lpX8_come ⟨Nat.le_of_ble_eq_true rfl, Nat.le_of_ble_eq_true rfl⟩ ⟨by show 3 + n1 + (i + 1) + 0 ≤ 36; omega, by show 160 + 16 * n1 + 16 * (i + 1) + 0 ≤ 704; omega⟩ rfl (Ext.new hq _ _ _ MM.1) (Nat.le_of_ble_eq_true rfl) (dk rfl) ?_
      rintro v h6 ⟨rfl, M6, F6⟩
      repeat refine fst1_ok X' (dk rfl) rfl ?_
      refine br_ok X' (dk rfl) rfl (show ((77 : Nat) : Int) + (-18) = ((59 : Nat) : Int) from rfl) (fun _ => ?_) (fun q => absurd trivial q)
      refine WS.sel (l' := [(3, vI (i + 1)), (2, .ref u2), (1, .ref u1), (0, .ref o8)]) [3, 2, 1, 0] (by rw [← f2]; rfl) ?_
      exact ih (i + 1) h6 _ rfl (by omega) M6 (FoC (FoE FF (Ext.new hq _)) F6)
  have loop1 : ∀ (d i : Nat) (hh : AH) (l : List (Nat × Value)), lsel l [3, 2, 1, 0] = [(3, vI i), (2, .ref u2), (1, .ref u1), (0, .ref o8)] → i + d = (sub' X 0).length → CS hh o8 T O Q (tsN X i) (ofN X i) (List.replicate 96 0) true → Fo o8 h hh → WR p la e (rmD 36 36 704) s m args below meth c D cA B0 6 (fun v h' => v = none ∧ (∃ T O Q ts of' pt can, CS h' o8 T O Q ts of' pt can ∧ InP X n1 ts of' pt can) ∧ Fo o8 h h') 36 l [] hh (3 + i) (160 + 16 * i) := by
    have lm : ((sub' X 0).map vI).length = (sub' X 0).length := List.length_map _
    intro d
    induction d with
    | zero =>
      intro i hh l hl hi MM FF
      have k1 := FF _ _ hu1o hu1
      refine WS.sel [3, 2, 1, 0] hl ?_
      repeat refine fst1_ok X' (dk rfl) rfl ?_
      refine alen_ok X' (by decide) (dk rfl) k1 ?_
      rw [lm]
      refine br_ok X' (dk rfl) rfl (show ((39 : Nat) : Int) + 18 = ((57 : Nat) : Int) from rfl) (fun _ => ?_) (fun c1 => absurd ((nI_leI (by omega) (by omega)).mpr (by omega)) c1)
      iterate 2 refine fst1_ok X' (dk rfl) rfl ?_
      have eN : i = n1 := by omega
      subst eN
      exact loop2 _ 0 hh _ rfl (Nat.zero_add _) MM FF
    | succ d ih =>
      intro i hh l hl hi MM FF
      have k1 := FF _ _ hu1o hu1
      have f2 : Value.int (nI i + Int32.ofInt 1) = vI (i + 1) := congrArg Value.int (by rw [nI_1', nI_add])
      obtain ⟨o1, o2, o3, o4, o5⟩ := sub_ok w1 (by omega) (show i < (sub' X 0).length by omega)
      have hiN : i < X.length := by omega
      have es : ((sub' X 0).drop i).take (tl (sub' X 0) i) = sub' X i := (sub_sub hX h0N (Nat.zero_le i) (by omega)).2
      refine WS.sel [3, 2, 1, 0] hl ?_
      repeat refine fst1_ok X' (dk rfl) rfl ?_
      refine alen_ok X' (by decide) (dk rfl) k1 ?_
      rw [lm]
      refine br_ok X' (dk rfl) rfl (show ((39 : Nat) : Int) + 18 = ((57 : Nat) : Int) from rfl) (fun c1 => absurd (nI_ge' (by omega) (by omega) c1) (by omega)) (fun _ => ?_)
      repeat refine fst1_ok X' (dk rfl) rfl ?_
      refine callSN_ok (av := [.ref u1, vI i]) (r := [.ref o8]) X' E (c_at hh k1 w1.lt (by omega) o1) lkX10_at mnX8_27 lsX10_at ⟨Nat.le_of_ble_eq_true rfl, Nat.le_of_ble_eq_true rfl⟩ ⟨by show 3 + i + 1 ≤ 36; omega, by show 160 + 16 * i + tl (sub' X 0) i ≤ 704; omega⟩ (Nat.le_of_ble_eq_true rfl) (dk rfl) ?_
      rintro v h5 ⟨q, rfl, hq, hBq, rfl⟩
      rw [es]
      refine WS.widen (k' := 3 + (i + 1)) (n' := 160 + 16 * (i + 1)) (by show 3 + i + 1 ≤ 3 + (i + 1); omega) (by show 160 + 16 * i + tl (sub' X 0) i ≤ 160 + 16 * (i + 1); omega) ?_
      refine callV_ok (ci := 10) (T := TX8) (N := 5) (av := [.ref q]) (r := []) X' E (comeC hh i q hiN MM hq) lkX8_come mlX8_31 lmX8_come lpX8_come ⟨Nat.le_of_ble_eq_true rfl, Nat.le_of_ble_eq_true rfl⟩ ⟨by show 3 + (i + 1) + 0 ≤ 36; omega, by show 160 + 16 * (i + 1) + 0 ≤ 704; omega⟩ rfl (Ext.new hq _ _ _ MM.1) (Nat.le_of_ble_eq_true rfl) (dk rfl) ?_
      rintro v h6 ⟨rfl, M6, F6⟩
      repeat refine fst1_ok X' (dk rfl) rfl ?_
      refine br_ok X' (dk rfl) rfl (show ((54 : Nat) : Int) + (-18) = ((36 : Nat) : Int) from rfl) (fun _ => ?_) (fun q => absurd trivial q)
      refine WS.sel (l' := [(3, vI (i + 1)), (2, .ref u2), (1, .ref u1), (0, .ref o8)]) [3, 2, 1, 0] (by rw [← f2]; rfl) ?_
      exact ih (i + 1) h6 _ rfl (by omega) M6 (FoC (FoE FF (Ext.new hq _)) F6)
  iterate 2 refine fst1_ok X' (dk rfl) rfl ?_
  exact loop1 _ 0 h4 _ rfl (Nat.zero_add _) M4 F4
end M77
end U77cl6
section U78cl7
/-! the reference's classes, 7: two of them for the same two terms come to the same; what an answer of them costs -/
def PtE (ts : List (List Nat)) (pt pt' : List Nat) : Prop := ∀ a, a < ts.length → ∀ j, j < pF (hdT ts a) → pt.getD (3 * a + j) 0 = pt'.getD (3 * a + j) 0
theorem joinL_congr {go go' : List Nat → Bool → Nat → Nat → Option (List Nat × Bool)} (hg : ∀ o c x y, go o c x y = go' o c x y) {pt pt' : List Nat} {a b : Nat} : ∀ (n j : Nat) (of' : List Nat) (can : Bool), (∀ i, j ≤ i → i < j + n → pt.getD (3 * a + i) 0 = pt'.getD (3 * a + i) 0 ∧ pt.getD (3 * b + i) 0 = pt'.getD (3 * b + i) 0) → joinL go pt a b n j of' can = joinL go' pt' a b n j of' can
  | 0, j, of', can, _ => rfl
  | n + 1, j, of', can, h => by
    obtain ⟨h1, h2⟩ := h j (Nat.le_refl _) (by omega)
    unfold joinL
    rw [hg, h1, h2]
    cases go' of' can (pt'.getD (3 * a + j) 0) (pt'.getD (3 * b + j) 0) with
    | none => rfl
    | some q => exact joinL_congr hg n (j + 1) q.1 q.2 (fun i e1 e2 => h i (by omega) (by omega))
theorem joinF_congr {ts : List (List Nat)} {pt pt' : List Nat} (hE : PtE ts pt pt') : ∀ (f : Nat) (of' : List Nat) (can : Bool) (one other : Nat), joinF ts pt f of' can one other = joinF ts pt' f of' can one other
  | 0, _, _, _, _ => rfl
  | f + 1, of', can, one, other => by
    have ih := joinF_congr hE f
    unfold joinF
    by_cases c : of'.getD one 0 = of'.getD other 0 ∨ can = false
    · rw [if_pos c, if_pos c]
    · rw [if_neg c, if_neg c]
      cases h1 : headF ts of' (of'.getD one 0) with
      | none => rfl
      | some a =>
        cases h2 : headF ts of' (of'.getD other 0) with
        | none => rfl
        | some b =>
          dsimp only
          by_cases e : hdT ts a = hdT ts b
          · rw [if_pos e, if_pos e]
            exact joinL_congr ih _ _ _ _ (fun i _ hi => ⟨hE a (headF_ok h1).1 i (by omega), hE b (headF_ok h2).1 i (by rw [← e]; omega)⟩)
          · rw [if_neg e, if_neg e]
theorem frF_congr {of' pt pt' : List Nat} {g : List Bool} {a : Nat} : ∀ (n j : Nat), (∀ i, j ≤ i → i < j + n → pt.getD (3 * a + i) 0 = pt'.getD (3 * a + i) 0) → frF of' pt g a n j = frF of' pt' g a n j
  | 0, _, _ => rfl
  | n + 1, j, h => by
    unfold frF
    rw [h j (Nat.le_refl _) (by omega), frF_congr n (j + 1) (fun i e1 e2 => h i (by omega) (by omega))]
theorem freeF_congr {ts : List (List Nat)} {of' pt pt' : List Nat} (hE : PtE ts pt pt') (g : List Bool) (its : Nat) : freeF ts of' pt g (headF ts of' its) = freeF ts of' pt' g (headF ts of' its) := by
  cases h : headF ts of' its with
  | none => rfl
  | some a => exact frF_congr _ _ (fun i _ hi => hE a (headF_ok h).1 i (by omega))
theorem psF_congr {ts : List (List Nat)} {of' pt pt' : List Nat} (hE : PtE ts pt pt') (g : List Bool) : ∀ k, psF ts of' pt g k = psF ts of' pt' g k
  | 0 => rfl
  | k + 1 => by
    rw [psF_succ, psF_succ, psF_congr hE g k, freeF_congr hE]
theorem rdF_congr {ts : List (List Nat)} {of' pt pt' : List Nat} (hE : PtE ts pt pt') : ∀ (f : Nat) (g : List Bool), rdF ts of' pt f g = rdF ts of' pt' f g
  | 0, _ => rfl
  | f + 1, g => by
    unfold rdF
    rw [psF_congr hE g, rdF_congr hE f]
theorem tsN_uq (X : List Nat) : ∀ (z i j : Nat) (t : List Nat), (tsN X z)[i]? = some t → (tsN X z)[j]? = some t → i = j
  | 0, i, j, t, h, _ => by simp [tsN] at h
  | z + 1, i, j, t, h1, h2 => by
    have ih := tsN_uq X z
    unfold tsN comeT at h1 h2
    split at h1
    · rename_i c
      rw [if_pos c] at h2
      exact ih i j t h1 h2
    · rename_i c
      rw [if_neg c] at h2
      rw [List.getElem?_append] at h1 h2
      by_cases a : i < (tsN X z).length
      · rw [if_pos a] at h1
        by_cases b : j < (tsN X z).length
        · rw [if_pos b] at h2
          exact ih i j t h1 h2
        · rw [if_neg b, List.getElem?_singleton] at h2
          split at h2
          · cases h2
            exact absurd (List.mem_of_getElem? h1) c
          · cases h2
      · rw [if_neg a, List.getElem?_singleton] at h1
        split at h1
        · cases h1
          by_cases b : j < (tsN X z).length
          · rw [if_pos b] at h2
            exact absurd (List.mem_of_getElem? h2) c
          · rw [if_neg b, List.getElem?_singleton] at h2
            split at h2
            · omega
            · cases h2
        · cases h1
theorem InP_det {X : List Nat} {n1 : Nat} {ts ts2 : List (List Nat)} {of' of2 pt pt2 : List Nat} {can can2 : Bool} (H : InP X n1 ts of' pt can) (H2 : InP X n1 ts2 of2 pt2 can2) : ts = ts2 ∧ of' = of2 ∧ can = can2 := by
  obtain ⟨rfl, x1, p1, j1, i0, i1, c1, g, a1, a2, a3, a4, a5, a6⟩ := H
  obtain ⟨rfl, x2, p2, j2, k0, k1, c2, g2, b1, b2, b3, b4, b5, b6⟩ := H2
  have hE : PtE (tsN X X.length) pt pt2 := fun a ha j hj => tsN_uq X X.length _ _ _ (x1 a j ha hj (Or.inl ha)) (x2 a j ha hj (Or.inl ha))
  have e0 := tsN_uq X X.length _ _ _ a1 b1
  have e1 := tsN_uq X X.length _ _ _ a2 b2
  subst e0
  subst e1
  rw [joinF_congr hE, b3] at a3
  obtain ⟨rfl, rfl⟩ := Prod.mk.injEq .. ▸ Option.some.inj a3
  rw [rdF_congr hE, b4] at a4
  cases a4
  exact ⟨rfl, rfl, by rw [a6, b6]⟩
theorem ansE {X : List Nat} {n1 : Nat} {ts : List (List Nat)} {of' pt : List Nat} (H : InP X n1 ts of' pt true) (h32 : ts.length ≤ 32) : PtOk ts pt ∧ ∃ r C N, anF ts of' pt 33 ts.length 0 [[0], [1], [2], [3], [4], [5], [6], [7]] 9 16 = some (r, C, N) ∧ C ≤ 3177 ∧ N ≤ 50704 := by
  obtain ⟨-, -, p1, j1, i0, i1, c1, g, -, -, -, -, ⟨rk, K, k1, k2, k3⟩, a6⟩ := H
  have hr : rnF of' g ts.length 0 = false := by
    cases hz : rnF of' g ts.length 0 with
    | false => rfl
    | true => rw [hz] at a6; simp at a6
  have hall := rnF_no _ _ hr
  have hle := cgN_le ts.length g
  obtain ⟨r, C, N, e1, e2, e3⟩ := anF_ok (ts := ts) (of' := of') (pt := pt) (F := 33) (fun k hk => wcF_ok k3 33 _ (hall k (Nat.zero_le _) (by omega)) (by have := k1 (of'.getD k 0); omega)) ts.length 0 [[0], [1], [2], [3], [4], [5], [6], [7]] 9 16 (Nat.zero_add _)
  exact ⟨p1, r, C, N, e1, by omega, by omega⟩
end U78cl7
section U79h9
/-! canBe, can: two terms made alike, both ways -/
theorem nc10_165 : NC RX10 165 10 [.null, .null, .null, .int 0, .int 0] := by
  refine ⟨RX8, TX8, 5, tyX8, rfl, cwX8, tyX8_ok, rfl, fun j hj => ?_, WT_of (by decide +kernel) rfl, WT_of (by decide +kernel) rfl, liX8⟩
  match j, hj with
  | 0, _ => rfl
  | 1, _ => rfl
  | 2, _ => rfl
  | 3, _ => rfl
  | 4, _ => rfl
/-- two terms can be made alike: by steps (0), by classes -/
def CanR (one other : List Nat) (x : Int32) : Prop := (x = 0 → ∃ G : GS, goF 40 one other none8 0 0 = some G ∧ G.2.2.1 = 0) ∧ (¬ x = 0 → ∃ ts of' pt, InP (one ++ other) one.length ts of' pt true)
theorem go_cap {one other : List Nat} (t1 : TW one ∧ one.length ≤ 16) (t2 : TW other ∧ other.length ≤ 16) {G : GS} (hG : goF 40 one other none8 0 0 = some G) : 2 + G.2.2.2.1 ≤ 8422 ∧ 11 + G.2.2.2.2 ≤ 97121 := by
  obtain ⟨G', h1, h2, h3, h4, -⟩ := goE t1 t2
  rw [hG] at h1
  cases h1
  exact ⟨by omega, by omega⟩
section M79
variable {la : Launch} {D : va_G} {cA : Nat → ClassId} {B0 pa : Nat}
set_option maxHeartbeats 4000000 in
theorem c_canBe (h : AH) {u1 u2 : Nat} {one other : List Nat} (x : Int32) {C N : Nat} (hC : 37 ≤ C ∧ 709 ≤ N) (hGo : x = 0 → ∀ G : GS, goF 40 one other none8 0 0 = some G → 2 + G.2.2.2.1 ≤ C ∧ 11 + G.2.2.2.2 ≤ N) (hu1 : h u1 = some (IA one)) (hu2 : h u2 = some (IA other)) (t1 : TW one ∧ one.length ≤ 16) (t2 : TW other ∧ other.length ≤ 16) : CT la D cA B0 pa yX10_canBe cX10_canBe 3 (some .boolean) (rmD 85 C N) [.ref u1, .ref u2, .int x] h (fun v h' => ∃ b : Bool, v = some (.int (bI b)) ∧ Ext h h' ∧ (b = true → CanR one other x)) := by
  refine CT_of (by decide +kernel) (Nat.le_of_ble_eq_true rfl) ?_
  intro p e s m args below meth c X E hr hlk hnm
  have dk : ∀ {pc : Nat} {q : Instr × Nat}, lkd DX10_canBe pc = some q → decode cX10_canBe pc = .ok q := lkd_ok DX10_canBe_ok
  refine fst1_ok X (dk rfl) rfl ?_
  refine br_ok X (dk rfl) rfl (show ((1 : Nat) : Int) + 26 = ((27 : Nat) : Int) from rfl) (fun hx => ?_) (fun hx => ?_)
  · obtain ⟨hY, z1, z2⟩ := BY_of t1 t2
    refine new_ok X nc10_165 (dk rfl) (by show 0 + 1 ≤ C; omega) (by show 0 + 5 ≤ N; omega) (fun u hu hBu => ?_)
    have XU := Ext.new hu ((10, [Value.null, .null, .null, .int 0, .int 0]) : AC)
    repeat refine fst1_ok X (dk rfl) rfl ?_
    refine callI_ok (av := [.ref u1, .ref u2]) (r := [.ref u]) X E (c_init8 _ hY (hup_self _ _ _) (by rw [z1]; exact XU _ _ hu1) (by rw [z2]; exact XU _ _ hu2)) lkX8_init mlX10_167 lmX8_init rfl ⟨Nat.le_of_ble_eq_true rfl, Nat.le_of_ble_eq_true rfl⟩ ⟨by show 0 + 1 + 36 ≤ C; omega, by show 0 + 5 + 704 ≤ N; omega⟩ (Nat.le_of_ble_eq_true rfl) (dk rfl) ?_
    rintro v h2 ⟨rfl, ⟨T, O, Q, ts, of', pt, can, M2, hI⟩, F2⟩
    have X2 : Ext h h2 := fun b c e => F2 b c (fun z => by rw [z, hu] at e; cases e) (XU _ _ e)
    refine getfN_ok X E.2.1 fnX10_207 (dk rfl) M2.1 rfl ?_
    exact reti_ok X hr hlk (bI_n can) (dk rfl) ⟨can, rfl, X2, fun hc => ⟨fun z => absurd z hx, fun _ => ⟨ts, of', pt, by rw [← hc]; exact hI⟩⟩⟩ (by show 0 + 1 + 36 ≤ C; omega) (by show 0 + 5 + 704 ≤ N; omega)
  · have hx0 : x = 0 := Decidable.not_not.mp hx
    obtain ⟨G, hG, g1, -⟩ := goE t1 t2
    obtain ⟨g2, g3⟩ := hGo hx0 G hG
    refine new_ok X nc10_157 (dk rfl) (by show 0 + 1 ≤ C; omega) (by show 0 + 3 ≤ N; omega) (fun u hu hBu => ?_)
    have XU := Ext.new hu ((11, [Value.null, .int 0, .int 0]) : AC)
    repeat refine fst1_ok X (dk rfl) rfl ?_
    refine callI_ok (av := [.ref u1, .ref u2]) (r := [.ref u]) X E (c_stepsInit _ (hup_self _ _ _) (XU _ _ hu1) (XU _ _ hu2) t1 t2 hG) lkX9_init mlX10_159 lmX9_init rfl ⟨Nat.le_of_ble_eq_true rfl, Nat.le_of_ble_eq_true rfl⟩ ⟨by show 0 + 1 + (1 + G.2.2.2.1) ≤ C; omega, by show 0 + 3 + (8 + G.2.2.2.2) ≤ N; omega⟩ (Nat.le_of_ble_eq_true rfl) (dk rfl) ?_
    rintro v h2 ⟨rfl, ⟨St, hSt, M2⟩, F2⟩
    have X2 : Ext h h2 := fun b c e => F2 b c (fun z => by rw [z, hu] at e; cases e) (XU _ _ e)
    refine getfN_ok X E.2.1 fnX10_204 (dk rfl) M2.1 rfl ?_
    have kl : 0 + 1 + (1 + G.2.2.2.1) ≤ C ∧ 0 + 3 + (8 + G.2.2.2.2) ≤ N := ⟨by omega, by omega⟩
    refine br_ok X (dk rfl) rfl (show ((16 : Nat) : Int) + 7 = ((23 : Nat) : Int) from rfl) (fun hz => ?_) (fun hz => ?_)
    · refine fst1_ok X (dk rfl) rfl ?_
      refine br_ok X (dk rfl) rfl (show ((24 : Nat) : Int) + 15 = ((39 : Nat) : Int) from rfl) (fun _ => ?_) (fun q => absurd trivial q)
      exact reti_ok X hr hlk (bI_n false) (dk rfl) ⟨false, rfl, X2, fun hc => by cases hc⟩ kl.1 kl.2
    · refine fst1_ok X (dk rfl) rfl ?_
      refine br_ok X (dk rfl) rfl (show ((20 : Nat) : Int) + 19 = ((39 : Nat) : Int) from rfl) (fun _ => ?_) (fun q => absurd trivial q)
      refine reti_ok X hr hlk (bI_n true) (dk rfl) ⟨true, rfl, X2, fun _ => ⟨fun _ => ⟨G, hG, ?_⟩, fun z => absurd hx0 z⟩⟩ kl.1 kl.2
      have hz' : nI G.2.2.1 = nI 0 := Decidable.not_not.mp hz
      exact (nI_eq (by omega) (by omega)).mp hz'
variable {o S A : Nat} {sl : List (List Nat)} {an : List (List (List Nat))} {a r kn th : Int32}
end M79
end U79h9
section U80h10
/-! alike: made alike, and told -/
set_option maxRecDepth 100000 in
theorem lpX8_answer : Cond.selects yX8_answer.cls yX8_answer yX8_answer ∈ WT := WT_of (tbw_7 (List.mem_of_getElem? (i := 135) rfl)) rfl
set_option maxRecDepth 100000 in
theorem lpX9_answer : Cond.selects yX9_answer.cls yX9_answer yX9_answer ∈ WT := WT_of (tbw_7 (List.mem_of_getElem? (i := 124) rfl)) rfl
theorem cnS_le (X : List Nat) (S : SS) : cnS X S ≤ 8 := by
  have h : sJ (cnN X S) 8 ≤ sJ (fun _ => 1) 8 := sJ_le (fun i _ => by
    unfold cnN nbN
    split <;> omega)
  rw [sJ_1] at h
  exact h
theorem alN : ∀ c, c < 9 → 37 + 2 * (64 + 2 * H1 c) + (1 + 8 * (1 + 64 * (c + 1))) ≤ 8500 ∧ 709 + 2 * (11 + 30 * (31 + H0 c)) + (8 + 8 * (1 + 1280 * (c + 1))) ≤ 102500 := by decide
theorem alL1 (x g E : Nat) (h : g ≤ 62 + 2 * x) (h1 : 37 + 2 * (64 + 2 * x) + E ≤ 8500) : 37 + (2 + g) + (2 + g) + E ≤ 8500 := by omega
theorem alL2 (x g E : Nat) (h : g ≤ 30 * (31 + x)) (h1 : 709 + 2 * (11 + 30 * (31 + x)) + E ≤ 102500) : 709 + (11 + g) + (11 + g) + E ≤ 102500 := by omega
theorem alN1 (c : Nat) (hc : c < 9) (g : Nat) (h : g ≤ 62 + 2 * H1 c) : 37 + (2 + g) + (2 + g) + (1 + 8 * (1 + 64 * (c + 1))) ≤ 8500 := alL1 (H1 c) g _ h (alN c hc).1
theorem alN2 (c : Nat) (hc : c < 9) (g : Nat) (h : g ≤ 30 * (31 + H0 c)) : 709 + (11 + g) + (11 + g) + (8 + 8 * (1 + 1280 * (c + 1))) ≤ 102500 := alL2 (H0 c) g _ h (alN c hc).2
/-- room for making two terms alike: what is needed before it is known whether they can be -/
def alC (one other : List Nat) (x : Int32) (C N : Nat) : Prop := (37 ≤ C ∧ 709 ≤ N) ∧ (x = 0 → ∀ G : GS, goF 40 one other none8 0 0 = some G → 2 + G.2.2.2.1 ≤ C ∧ 11 + G.2.2.2.2 ≤ N) ∧ C ≤ 8500 ∧ N ≤ 102500 ∧
  (CanR one other x → (x = 0 → ∃ (G : GS) (S : SS) (aC aN : Nat), goF 40 one other none8 0 0 = some G ∧ G.1 = smO (one ++ other) S ∧ S1 (one ++ other) S ∧ aC = 1 + 8 * (1 + 64 * (cnS (one ++ other) S + 1)) ∧ aN = 8 + 8 * (1 + 1280 * (cnS (one ++ other) S + 1)) ∧ C + (2 + G.2.2.2.1) + aC ≤ 8500 ∧ N + (11 + G.2.2.2.2) + aN ≤ 102500) ∧ (¬ x = 0 → C = 37 ∧ N = 709))
theorem alC_ok {one other : List Nat} (t1 : TW one ∧ one.length ≤ 16) (t2 : TW other ∧ other.length ≤ 16) (x : Int32) : ∃ C N, alC one other x C N := by
  by_cases hx : x = 0
  · obtain ⟨G, hG, g1, g2, g3, g4⟩ := goE t1 t2
    refine ⟨37 + (2 + G.2.2.2.1), 709 + (11 + G.2.2.2.2), ⟨by omega, by omega⟩, fun _ G' hG' => ?_, by omega, by omega, fun hc => ⟨fun _ => ?_, fun z => absurd hx z⟩⟩
    · rw [hG] at hG'
      cases hG'
      exact ⟨by omega, by omega⟩
    · obtain ⟨G', hG', w0⟩ := hc.1 hx
      rw [hG] at hG'
      cases hG'
      obtain ⟨S, e1, e2, -, e3, e4⟩ := g4 w0
      have h9 := cnS_le (one ++ other) S
      exact ⟨G, S, _, _, hG, e1, e2, rfl, rfl, alN1 _ (by omega) _ e3, alN2 _ (by omega) _ e4⟩
  · exact ⟨37, 709, ⟨by omega, by omega⟩, fun z => absurd z hx, by omega, by omega, fun _ => ⟨fun z => absurd z hx, fun _ => ⟨rfl, rfl⟩⟩⟩
section M80
variable {la : Launch} {D : va_G} {cA : Nat → ClassId} {B0 pa : Nat}
variable {o S A : Nat} {sl : List (List Nat)} {an : List (List (List Nat))} {a r kn th : Int32}
end M80
end U80h10
section U81h11
/-! digest -/
theorem cs10_230 : Cond.constantLong RX10 230 8024 ∈ WT := WT_of (tbw_8 (List.mem_of_getElem? (i := 40) rfl)) rfl
section M81
variable {la : Launch} {D : va_G} {cA : Nat → ClassId} {B0 pa : Nat}
variable {o S A : Nat} {sl : List (List Nat)} {an : List (List (List Nat))} {a r kn th : Int32}
end M81
end U81h11
