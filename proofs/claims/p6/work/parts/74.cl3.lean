/-! the reference's classes, 3: isFree, isRound -/
def bV (b : Bool) : Value := .int (bI b)
def frF (of' pt : List Nat) (g : List Bool) (a : Nat) : Nat → Nat → Bool
  | 0, _ => true
  | n + 1, j => if g.getD (of'.getD (pt.getD (3 * a + j) 0) 0) false = true then frF of' pt g a n (j + 1) else false
def freeF (ts : List (List Nat)) (of' pt : List Nat) (g : List Bool) (o : Option Nat) : Bool := match o with
  | some a => frF of' pt g a (pF (hdT ts a)) 0
  | none => true
def psF (ts : List (List Nat)) (of' pt : List Nat) (g : List Bool) : Nat → List Bool × Bool
  | 0 => (g, false)
  | k + 1 => if (psF ts of' pt g k).1.getD (of'.getD k 0) false = true then psF ts of' pt g k else
    if freeF ts of' pt (psF ts of' pt g k).1 (headF ts of' (of'.getD k 0)) = true then ((psF ts of' pt g k).1.set (of'.getD k 0) true, true) else psF ts of' pt g k
theorem psF_succ (ts : List (List Nat)) (of' pt : List Nat) (g : List Bool) (k : Nat) : psF ts of' pt g (k + 1) = if (psF ts of' pt g k).1.getD (of'.getD k 0) false = true then psF ts of' pt g k else
    if freeF ts of' pt (psF ts of' pt g k).1 (headF ts of' (of'.getD k 0)) = true then ((psF ts of' pt g k).1.set (of'.getD k 0) true, true) else psF ts of' pt g k := rfl
def rdF (ts : List (List Nat)) (of' pt : List Nat) : Nat → List Bool → Option (List Bool)
  | 0, _ => none
  | f + 1, g => if (psF ts of' pt g ts.length).2 = true then rdF ts of' pt f (psF ts of' pt g ts.length).1 else some (psF ts of' pt g ts.length).1
def rnF (of' : List Nat) (g : List Bool) : Nat → Nat → Bool
  | 0, _ => false
  | n + 1, k => if g.getD (of'.getD k 0) false = true then rnF of' g n (k + 1) else true
theorem psF_len (ts : List (List Nat)) (of' pt : List Nat) (g : List Bool) : ∀ k, (psF ts of' pt g k).1.length = g.length
  | 0 => rfl
  | k + 1 => by
    rw [psF_succ]
    split
    · exact psF_len ts of' pt g k
    · split
      · rw [List.length_set]
        exact psF_len ts of' pt g k
      · exact psF_len ts of' pt g k
theorem getB {g : List Bool} {j : Nat} (h : j < g.length) : ∃ b, g[j]? = some b ∧ g.getD j false = b := ⟨g[j], by simp [h], by simp [List.getD_eq_getElem?_getD, h]⟩
theorem bV_get {g : List Bool} {j : Nat} {b : Bool} (h : g[j]? = some b) : (g.map bV)[j]? = some (bV b) := by rw [List.getElem?_map, h]; rfl
def OfOk (ts : List (List Nat)) (of' : List Nat) : Prop := ∀ k, k < ts.length → of'.getD k 0 < ts.length
section M74
variable {la : Launch} {D : va_G} {cA : Nat → ClassId} {B0 pa : Nat} {o8 T O Q : Nat} {ts : List (List Nat)} {of' pt : List Nat} {can : Bool}
set_option maxHeartbeats 8000000 in
theorem c_isFree (h : AH) (M : CS h o8 T O Q ts of' pt can) (hP : PtOk ts pt) (hO : OfOk ts of') {G : Nat} {g : List Bool} (hG : h G = some (101, g.map bV)) (hg : g.length = ts.length) {o : Option Nat} (ho : ∀ a, o = some a → a < ts.length) : CT la D cA B0 pa yX8_isFree cX8_isFree 4 (some .boolean) (rmD 1 0 0) [.ref o8, .int (pI o), .ref G] h (fun v h' => v = some (bV (freeF ts of' pt g o)) ∧ h' = h) := by
  refine CT_of (by decide +kernel) (Nat.le_of_ble_eq_true rfl) ?_
  intro p e s m args below meth c X E hr hlk hnm
  have dk : ∀ {pc : Nat} {q : Instr × Nat}, lkd DX8_isFree pc = some q → decode cX8_isFree pc = .ok q := lkd_ok DX8_isFree_ok
  have h32 : ts.length ≤ 32 := M.2.2.2.2.2.2.2.1
  refine fst1_ok X (dk rfl) rfl ?_
  cases o with
  | none =>
    refine br_ok X (dk rfl) rfl (show ((1 : Nat) : Int) + 5 = ((6 : Nat) : Int) from rfl) (fun q => absurd q (by decide)) (fun _ => ?_)
    refine fst1_ok X (dk rfl) rfl ?_
    exact reti_ok X hr hlk (bI_n true) (dk rfl) ⟨rfl, rfl⟩ (Nat.le_refl _) (Nat.le_refl _)
  | some a =>
    have hal := ho a rfl
    refine br_ok X (dk rfl) rfl (show ((1 : Nat) : Int) + 5 = ((6 : Nat) : Int) from rfl) (fun _ => ?_) (fun q => absurd (nI_pos' (by omega)) q)
    obtain ⟨vs5, q5, r5, x, m1, m2, m3, m4, m5, m6, m7, m8, m9, m10⟩ := M.term hal
    have hx18 := m8.lt
    have ex : hdT ts a = x := m9
    have hp3 : pF (hdT ts a) ≤ 3 := hdT_pF M hal
    have loop : ∀ (n j : Nat) (l : List (Nat × Value)), lsel l [3, 2, 1, 0] = [(3, vI j), (2, .ref G), (1, vI a), (0, .ref o8)] → j + n = pF (hdT ts a) → frF of' pt g a n j = freeF ts of' pt g (some a) → WR p la e (rmD 1 0 0) s m args below meth c D cA B0 4 (fun v h' => v = some (bV (freeF ts of' pt g (some a))) ∧ h' = h) 8 l [] h 0 0 := by
      intro n
      induction n with
      | zero =>
        intro j l hl hj hf
        refine WS.sel [3, 2, 1, 0] hl ?_
        repeat refine fst1_ok X (dk rfl) rfl ?_
        refine getf_ok X flX8_11 (dk rfl) M.1 rfl ?_
        refine fst1_ok X (dk rfl) rfl ?_
        refine ld5_ok X (dk rfl) m1 m2 (by omega) ?_
        refine fst1_ok X (dk rfl) rfl ?_
        refine ald_ok X (Or.inl ⟨rfl, rfl⟩) (dk rfl) m4 (inA_nI (j := 0) (by omega) (IA_get m7)) ?_
        refine callSN_ok (av := [vI x]) (r := [vI j]) X E (c_parts h (by omega)) lkX10_parts mnX8_39 lsX10_parts ⟨Nat.le_of_ble_eq_true rfl, Nat.le_of_ble_eq_true rfl⟩ ⟨Nat.zero_le _, Nat.zero_le _⟩ (Nat.le_of_ble_eq_true rfl) (dk rfl) ?_
        rintro v h4 ⟨rfl, rfl⟩
        refine br_ok X (dk rfl) rfl (show ((20 : Nat) : Int) + 31 = ((51 : Nat) : Int) from rfl) (fun _ => ?_) (fun q => absurd ((nI_leI (by rw [← ex]; omega) (by omega)).mpr (by rw [← ex]; omega)) q)
        refine fst1_ok X (dk rfl) rfl ?_
        exact reti_ok X hr hlk (bI_n true) (dk rfl) ⟨by rw [← hf]; rfl, rfl⟩ (Nat.le_refl _) (Nat.le_refl _)
      | succ n ih =>
        intro j l hl hj hf
        have f2 : Value.int (nI j + Int32.ofInt 1) = vI (j + 1) := congrArg Value.int (by rw [nI_1', nI_add])
        obtain ⟨p1, p2, p3, p4⟩ := M.ptx (k := 3 * a + j) (by omega)
        have l1 := hP a hal j (by omega)
        rw [p4] at l1
        obtain ⟨z1, z2, z3, z4⟩ := M.ofx (k := p1) (by omega)
        have l2 := hO p1 l1
        rw [z4] at l2
        obtain ⟨b, b1, b2⟩ := getB (g := g) (j := z1) (by omega)
        unfold frF at hf
        rw [p4, z4, b2] at hf
        refine WS.sel [3, 2, 1, 0] hl ?_
        repeat refine fst1_ok X (dk rfl) rfl ?_
        refine getf_ok X flX8_11 (dk rfl) M.1 rfl ?_
        refine fst1_ok X (dk rfl) rfl ?_
        refine ld5_ok X (dk rfl) m1 m2 (by omega) ?_
        refine fst1_ok X (dk rfl) rfl ?_
        refine ald_ok X (Or.inl ⟨rfl, rfl⟩) (dk rfl) m4 (inA_nI (j := 0) (by omega) (IA_get m7)) ?_
        refine callSN_ok (av := [vI x]) (r := [vI j]) X E (c_parts h (by omega)) lkX10_parts mnX8_39 lsX10_parts ⟨Nat.le_of_ble_eq_true rfl, Nat.le_of_ble_eq_true rfl⟩ ⟨Nat.zero_le _, Nat.zero_le _⟩ (Nat.le_of_ble_eq_true rfl) (dk rfl) ?_
        rintro v h4 ⟨rfl, rfl⟩
        refine br_ok X (dk rfl) rfl (show ((20 : Nat) : Int) + 31 = ((51 : Nat) : Int) from rfl) (fun q => absurd (nI_ge' (by omega) (by rw [← ex]; omega) q) (by rw [← ex]; omega)) (fun _ => ?_)
        repeat refine fst1_ok X (dk rfl) rfl ?_
        refine getf_ok X flX8_17 (dk rfl) M.1 rfl ?_
        refine fst1_ok X (dk rfl) rfl ?_
        refine getf_ok X flX8_20 (dk rfl) M.1 rfl ?_
        repeat refine fst1_ok X (dk rfl) rfl ?_
        rw [nI_3', nI_mul, nI_add]
        refine ald_ok X (Or.inl ⟨rfl, rfl⟩) (dk rfl) M.2.2.2.1 (inA_nI (by omega) (IA_get p2)) ?_
        refine ald_ok X (Or.inl ⟨rfl, rfl⟩) (dk rfl) M.2.2.1 (inA_nI (by omega) (IA_get z2)) ?_
        refine ald_ok X (Or.inr (Or.inl ⟨rfl, rfl⟩)) (dk rfl) hG (inA_nI (by omega) (bV_get b1)) ?_
        cases b with
        | true =>
          rw [if_pos rfl] at hf
          refine br_ok X (dk rfl) rfl (show ((40 : Nat) : Int) + 5 = ((45 : Nat) : Int) from rfl) (fun _ => ?_) (fun q => absurd bI_t q)
          repeat refine fst1_ok X (dk rfl) rfl ?_
          refine br_ok X (dk rfl) rfl (show ((48 : Nat) : Int) + (-40) = ((8 : Nat) : Int) from rfl) (fun _ => ?_) (fun q => absurd trivial q)
          refine WS.sel (l' := [(3, vI (j + 1)), (2, .ref G), (1, vI a), (0, .ref o8)]) [3, 2, 1, 0] (by rw [← f2]; rfl) ?_
          exact ih (j + 1) _ rfl (by omega) hf
        | false =>
          rw [if_neg (by decide)] at hf
          refine br_ok X (dk rfl) rfl (show ((40 : Nat) : Int) + 5 = ((45 : Nat) : Int) from rfl) (fun q => absurd q bI_f) (fun _ => ?_)
          refine fst1_ok X (dk rfl) rfl ?_
          exact reti_ok X hr hlk (bI_n false) (dk rfl) ⟨by rw [← hf]; rfl, rfl⟩ (Nat.le_refl _) (Nat.le_refl _)
    iterate 2 refine fst1_ok X (dk rfl) rfl ?_
    exact loop (pF (hdT ts a)) 0 _ rfl (Nat.zero_add _) rfl
set_option maxHeartbeats 16000000 in
theorem c_isRound (h : AH) (M : CS h o8 T O Q ts of' pt can) (hP : PtOk ts pt) (hO : OfOk ts of') {F : Nat} {g' : List Bool} (hR : rdF ts of' pt F (List.replicate ts.length false) = some g') : CT la D cA B0 pa yX8_isRound cX8_isRound 4 (some .boolean) (rmD 2 1 32) [.ref o8] h (fun v h' => v = some (bV (rnF of' g' ts.length 0)) ∧ Ext h h') := by
  refine CT_of (by decide +kernel) (Nat.le_of_ble_eq_true rfl) ?_
  intro p e s m args below meth c X E hr hlk hnm
  have dk : ∀ {pc : Nat} {q : Instr × Nat}, lkd DX8_isRound pc = some q → decode cX8_isRound pc = .ok q := lkd_ok DX8_isRound_ok
  have h32 : ts.length ≤ 32 := M.2.2.2.2.2.2.2.1
  refine fst1_ok X (dk rfl) rfl ?_
  refine getf_ok X flX8_35 (dk rfl) M.1 rfl ?_
  have e0 : (nI ts.length).toNatClampNeg = ts.length := nI_clamp (by omega)
  refine newa_ok X (Or.inr ⟨rfl, rfl⟩) wi_bool (dk rfl) (nI_pos (by omega)) (by rw [e0]; omega) (Nat.le_of_ble_eq_true rfl) (by rw [e0]; show 0 + ts.length ≤ 32; omega) (fun G hG hBG => ?_)
  rw [e0]
  have XG : ∀ c, Ext h (hup h G c) := fun c => Ext.new hG c
  refine WS.widen (k' := 1) (n' := 32) (Nat.le_refl _) (by show 0 + ts.length ≤ 32; omega) ?_
  -- the last look
  have loop3 : ∀ (g : List Bool), g.length = ts.length → rnF of' g ts.length 0 = rnF of' g' ts.length 0 → ∀ (hh : AH), Ext h hh → hh G = some (101, g.map bV) → ∀ (n k : Nat) (l : List (Nat × Value)), lsel l [3, 1, 0] = [(3, vI k), (1, .ref G), (0, .ref o8)] → k + n = ts.length → rnF of' g n k = rnF of' g' ts.length 0 → WR p la e (rmD 2 1 32) s m args below meth c D cA B0 4 (fun v h' => v = some (bV (rnF of' g' ts.length 0)) ∧ Ext h h') 76 l [] hh 1 32 := by
    intro g hgl hge hh XX hhG n
    have MM := M.ext XX
    induction n with
    | zero =>
      intro k l hl hk hf
      refine WS.sel [3, 1, 0] hl ?_
      repeat refine fst1_ok X (dk rfl) rfl ?_
      refine getf_ok X flX8_35 (dk rfl) MM.1 rfl ?_
      refine br_ok X (dk rfl) rfl (show ((81 : Nat) : Int) + 22 = ((103 : Nat) : Int) from rfl) (fun _ => ?_) (fun c1 => absurd ((nI_leI (by omega) (by omega)).mpr (by omega)) c1)
      refine fst1_ok X (dk rfl) rfl ?_
      exact reti_ok X hr hlk (bI_n false) (dk rfl) ⟨by rw [← hf]; rfl, XX⟩ (Nat.le_refl _) (Nat.le_refl _)
    | succ n ih =>
      intro k l hl hk hf
      have f2 : Value.int (nI k + Int32.ofInt 1) = vI (k + 1) := congrArg Value.int (by rw [nI_1', nI_add])
      obtain ⟨z1, z2, z3, z4⟩ := MM.ofx (k := k) (by omega)
      have l2 := hO k (by omega)
      rw [z4] at l2
      obtain ⟨b, b1, b2⟩ := getB (g := g) (j := z1) (by omega)
      rw [show rnF of' g (n + 1) k = if g.getD (of'.getD k 0) false = true then rnF of' g n (k + 1) else true from rfl, z4, b2] at hf
      refine WS.sel [3, 1, 0] hl ?_
      repeat refine fst1_ok X (dk rfl) rfl ?_
      refine getf_ok X flX8_35 (dk rfl) MM.1 rfl ?_
      refine br_ok X (dk rfl) rfl (show ((81 : Nat) : Int) + 22 = ((103 : Nat) : Int) from rfl) (fun c1 => absurd (nI_ge' (by omega) (by omega) c1) (by omega)) (fun _ => ?_)
      repeat refine fst1_ok X (dk rfl) rfl ?_
      refine getf_ok X flX8_17 (dk rfl) MM.1 rfl ?_
      refine fst1_ok X (dk rfl) rfl ?_
      refine ald_ok X (Or.inl ⟨rfl, rfl⟩) (dk rfl) MM.2.2.1 (inA_nI (by omega) (IA_get z2)) ?_
      refine ald_ok X (Or.inr (Or.inl ⟨rfl, rfl⟩)) (dk rfl) hhG (inA_nI (by omega) (bV_get b1)) ?_
      cases b with
      | true =>
        rw [if_pos rfl] at hf
        refine br_ok X (dk rfl) rfl (show ((92 : Nat) : Int) + 5 = ((97 : Nat) : Int) from rfl) (fun _ => ?_) (fun q => absurd bI_t q)
        repeat refine fst1_ok X (dk rfl) rfl ?_
        refine br_ok X (dk rfl) rfl (show ((100 : Nat) : Int) + (-24) = ((76 : Nat) : Int) from rfl) (fun _ => ?_) (fun q => absurd trivial q)
        refine WS.sel (l' := [(3, vI (k + 1)), (1, .ref G), (0, .ref o8)]) [3, 1, 0] (by rw [← f2]; rfl) ?_
        exact ih (k + 1) _ rfl (by omega) hf
      | false =>
        rw [if_neg (by decide)] at hf
        refine br_ok X (dk rfl) rfl (show ((92 : Nat) : Int) + 5 = ((97 : Nat) : Int) from rfl) (fun q => absurd q bI_f) (fun _ => ?_)
        refine fst1_ok X (dk rfl) rfl ?_
        exact reti_ok X hr hlk (bI_n true) (dk rfl) ⟨by rw [← hf]; rfl, XX⟩ (Nat.le_refl _) (Nat.le_refl _)
  have outer : ∀ (F : Nat) (g : List Bool) (hh : AH) (l : List (Nat × Value)), lsel l [2, 1, 0] = [(2, .int (bI true)), (1, .ref G), (0, .ref o8)] → g.length = ts.length → rdF ts of' pt F g = some g' → Ext h hh → hh G = some (101, g.map bV) → WR p la e (rmD 2 1 32) s m args below meth c D cA B0 4 (fun v h' => v = some (bV (rnF of' g' ts.length 0)) ∧ Ext h h') 9 l [] hh 1 32 := by
    intro F
    induction F with
    | zero => intro g hh l hl hgl hr'; cases hr'
    | succ F ihF =>
      intro g hh l hl hgl hrd XX hhG
      unfold rdF at hrd
      have inner : ∀ (n k : Nat) (hh : AH) (l : List (Nat × Value)), lsel l [3, 2, 1, 0] = [(3, vI k), (2, .int (bI (psF ts of' pt g k).2)), (1, .ref G), (0, .ref o8)] → k + n = ts.length → Ext h hh → hh G = some (101, (psF ts of' pt g k).1.map bV) → WR p la e (rmD 2 1 32) s m args below meth c D cA B0 4 (fun v h' => v = some (bV (rnF of' g' ts.length 0)) ∧ Ext h h') 17 l [] hh 1 32 := by
        intro n
        induction n with
        | zero =>
          intro k hh l hl hk XX hhG
          have MM := M.ext XX
          have hkt : k = ts.length := by omega
          subst hkt
          refine WS.sel [3, 2, 1, 0] hl ?_
          repeat refine fst1_ok X (dk rfl) rfl ?_
          refine getf_ok X flX8_35 (dk rfl) MM.1 rfl ?_
          refine br_ok X (dk rfl) rfl (show ((22 : Nat) : Int) + 49 = ((71 : Nat) : Int) from rfl) (fun _ => ?_) (fun c1 => absurd ((nI_leI (by omega) (by omega)).mpr (by omega)) c1)
          refine br_ok X (dk rfl) rfl (show ((71 : Nat) : Int) + (-62) = ((9 : Nat) : Int) from rfl) (fun _ => ?_) (fun q => absurd trivial q)
          have hpl := psF_len ts of' pt g ts.length
          cases hon : (psF ts of' pt g ts.length).2 with
          | true =>
            rw [hon, if_pos rfl] at hrd
            exact ihF _ hh _ rfl (by rw [hpl, hgl]) hrd XX hhG
          | false =>
            rw [hon, if_neg (by decide)] at hrd
            refine fst1_ok X (dk rfl) rfl ?_
            refine br_ok X (dk rfl) rfl (show ((10 : Nat) : Int) + 64 = ((74 : Nat) : Int) from rfl) (fun _ => ?_) (fun q => absurd bI_f' q)
            iterate 2 refine fst1_ok X (dk rfl) rfl ?_
            cases hrd
            exact loop3 _ (by rw [hpl, hgl]) rfl hh XX hhG ts.length 0 _ rfl (Nat.zero_add _) rfl
        | succ n ih =>
          intro k hh l hl hk XX hhG
          have MM := M.ext XX
          have f2 : Value.int (nI k + Int32.ofInt 1) = vI (k + 1) := congrArg Value.int (by rw [nI_1', nI_add])
          obtain ⟨z1, z2, z3, z4⟩ := MM.ofx (k := k) (by omega)
          have l2 := hO k (by omega)
          rw [z4] at l2
          have hpl := psF_len ts of' pt g k
          obtain ⟨b, b1, b2⟩ := getB (g := (psF ts of' pt g k).1) (j := z1) (by omega)
          have hsu := psF_succ ts of' pt g k
          rw [z4, b2] at hsu
          have next9 : ∀ (on : Bool) (hh : AH), on = (psF ts of' pt g (k + 1)).2 → Ext h hh → hh G = some (101, (psF ts of' pt g (k + 1)).1.map bV) → ∀ l : List (Nat × Value), lsel l [3, 2, 1, 0] = [(3, vI k), (2, .int (bI on)), (1, .ref G), (0, .ref o8)] → WR p la e (rmD 2 1 32) s m args below meth c D cA B0 4 (fun v h' => v = some (bV (rnF of' g' ts.length 0)) ∧ Ext h h') 65 l [] hh 1 32 := by
            intro on hh hon XX hhG l hl
            refine WS.sel [3, 2, 1, 0] hl ?_
            repeat refine fst1_ok X (dk rfl) rfl ?_
            refine br_ok X (dk rfl) rfl (show ((68 : Nat) : Int) + (-51) = ((17 : Nat) : Int) from rfl) (fun _ => ?_) (fun q => absurd trivial q)
            refine WS.sel (l' := [(3, vI (k + 1)), (2, .int (bI (psF ts of' pt g (k + 1)).2)), (1, .ref G), (0, .ref o8)]) [3, 2, 1, 0] (by rw [← f2, ← hon]; rfl) ?_
            exact ih (k + 1) hh _ rfl (by omega) XX hhG
          refine WS.sel [3, 2, 1, 0] hl ?_
          repeat refine fst1_ok X (dk rfl) rfl ?_
          refine getf_ok X flX8_35 (dk rfl) MM.1 rfl ?_
          refine br_ok X (dk rfl) rfl (show ((22 : Nat) : Int) + 49 = ((71 : Nat) : Int) from rfl) (fun c1 => absurd (nI_ge' (by omega) (by omega) c1) (by omega)) (fun _ => ?_)
          repeat refine fst1_ok X (dk rfl) rfl ?_
          refine getf_ok X flX8_17 (dk rfl) MM.1 rfl ?_
          refine fst1_ok X (dk rfl) rfl ?_
          refine ald_ok X (Or.inl ⟨rfl, rfl⟩) (dk rfl) MM.2.2.1 (inA_nI (by omega) (IA_get z2)) ?_
          refine ald_ok X (Or.inr (Or.inl ⟨rfl, rfl⟩)) (dk rfl) hhG (inA_nI (by omega) (bV_get b1)) ?_
          cases b with
          | true =>
            rw [if_pos rfl] at hsu
            refine br_ok X (dk rfl) rfl (show ((33 : Nat) : Int) + 32 = ((65 : Nat) : Int) from rfl) (fun _ => ?_) (fun q => absurd bI_t q)
            exact next9 _ hh (by rw [hsu]) XX (by rw [hsu]; exact hhG) _ rfl
          | false =>
            rw [if_neg (by decide)] at hsu
            refine br_ok X (dk rfl) rfl (show ((33 : Nat) : Int) + 32 = ((65 : Nat) : Int) from rfl) (fun q => absurd q bI_f) (fun _ => ?_)
            repeat refine fst1_ok X (dk rfl) rfl ?_
            refine getf_ok X flX8_17 (dk rfl) MM.1 rfl ?_
            refine fst1_ok X (dk rfl) rfl ?_
            refine ald_ok X (Or.inl ⟨rfl, rfl⟩) (dk rfl) MM.2.2.1 (inA_nI (by omega) (IA_get z2)) ?_
            refine callV_ok (ci := 10) (T := TX8) (N := 5) (av := [vI z1]) (r := [.ref o8]) X E (c_headed hh MM z3) lkX8_headed mlX8_66 lmX8_headed lpX8_headed ⟨Nat.le_of_ble_eq_true rfl, Nat.le_of_ble_eq_true rfl⟩ ⟨Nat.le_of_ble_eq_true rfl, Nat.le_of_ble_eq_true rfl⟩ rfl MM.1 (Nat.le_of_ble_eq_true rfl) (dk rfl) ?_
            rintro v h2 ⟨rfl, rfl⟩
            rw [vP_pI]
            refine fst1_ok X (dk rfl) rfl ?_
            refine callV_ok (ci := 10) (T := TX8) (N := 5) (av := [.int (pI (headF ts of' z1)), .ref G]) (r := []) X E (c_isFree h2 MM hP hO hhG (by rw [hpl, hgl]) (fun a ha => (headF_ok ha).1)) lkX8_isFree mlX8_69 lmX8_isFree lpX8_isFree ⟨Nat.le_of_ble_eq_true rfl, Nat.le_of_ble_eq_true rfl⟩ ⟨Nat.le_of_ble_eq_true rfl, Nat.le_of_ble_eq_true rfl⟩ rfl MM.1 (Nat.le_of_ble_eq_true rfl) (dk rfl) ?_
            rintro v h3 ⟨rfl, rfl⟩
            cases hfr : freeF ts of' pt (psF ts of' pt g k).1 (headF ts of' z1) with
            | false =>
              rw [hfr, if_neg (by decide)] at hsu
              refine br_ok X (dk rfl) rfl (show ((51 : Nat) : Int) + 14 = ((65 : Nat) : Int) from rfl) (fun _ => ?_) (fun q => absurd bI_f' q)
              exact next9 _ h3 (by rw [hsu]) XX (by rw [hsu]; exact hhG) _ rfl
            | true =>
              rw [hfr, if_pos rfl] at hsu
              refine br_ok X (dk rfl) rfl (show ((51 : Nat) : Int) + 14 = ((65 : Nat) : Int) from rfl) (fun q => absurd q bI_t) (fun _ => ?_)
              repeat refine fst1_ok X (dk rfl) rfl ?_
              refine getf_ok X flX8_17 (dk rfl) MM.1 rfl ?_
              refine fst1_ok X (dk rfl) rfl ?_
              refine ald_ok X (Or.inl ⟨rfl, rfl⟩) (dk rfl) MM.2.2.1 (inA_nI (by omega) (IA_get z2)) ?_
              refine fst1_ok X (dk rfl) rfl ?_
              have ez : (nI z1).toNatClampNeg = z1 := nI_clamp (by omega)
              refine ast_ok X (Or.inr (Or.inl ⟨rfl, rfl, Or.inr (by decide)⟩)) (dk rfl) hhG ⟨nI_pos (by omega), by rw [ez, List.length_map]; omega⟩ ?_
              rw [ez]
              iterate 2 refine fst1_ok X (dk rfl) rfl ?_
              refine next9 true _ (by rw [hsu]) (XX.set hG _) ?_ _ rfl
              rw [hup_self, hsu, List.map_set]
              rfl
      refine WS.sel [2, 1, 0] hl ?_
      refine fst1_ok X (dk rfl) rfl ?_
      refine br_ok X (dk rfl) rfl (show ((10 : Nat) : Int) + 64 = ((74 : Nat) : Int) from rfl) (fun q => absurd q bI_t) (fun _ => ?_)
      iterate 4 refine fst1_ok X (dk rfl) rfl ?_
      exact inner ts.length 0 hh _ rfl (Nat.zero_add _) XX hhG
  iterate 3 refine fst1_ok X (dk rfl) rfl ?_
  refine outer F (List.replicate ts.length false) _ _ rfl (List.length_replicate) hR (XG _) ?_
  rw [hup_self, List.map_replicate]
  rfl
end M74
