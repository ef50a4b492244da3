/-! the reference's classes, 4: whole, answer -/
def leF (ts : List (List Nat)) (of' : List Nat) (its : Nat) : Nat → Nat
  | 0 => 8
  | k + 1 => if of'.getD k 0 = its then min (leF ts of' its k) (hdT ts k) else leF ts of' its k
theorem leF_succ (ts : List (List Nat)) (of' : List Nat) (its k : Nat) : leF ts of' its (k + 1) = if of'.getD k 0 = its then min (leF ts of' its k) (hdT ts k) else leF ts of' its k := rfl
theorem leF_8 (ts : List (List Nat)) (of' : List Nat) (its : Nat) : ∀ k, leF ts of' its k ≤ 8
  | 0 => Nat.le_refl _
  | k + 1 => by
    have := leF_8 ts of' its k
    rw [leF_succ]
    split <;> omega
theorem leF_le {ts : List (List Nat)} {of' : List Nat} {its i : Nat} (h : of'.getD i 0 = its) : ∀ {k : Nat}, i < k → leF ts of' its k ≤ hdT ts i
  | k + 1, hi => by
    rw [leF_succ]
    rcases Nat.lt_or_ge i k with q | q
    · have := leF_le (ts := ts) h q
      split <;> omega
    · have : i = k := by omega
      subst this
      rw [if_pos h]
      omega
abbrev W3 : Type := Option (List Nat) × Nat × Nat
def wcL (go : Nat → Option W3) (of' pt : List Nat) (a : Nat) : Nat → Nat → List Nat → Nat → Nat → Option W3
  | 0, _, made, C, N => some (some made, C, N)
  | n + 1, j, made, C, N => match go (of'.getD (pt.getD (3 * a + j) 0) 0) with
    | none => none
    | some (none, c1, n1) => some (none, C + c1, N + n1)
    | some (some x, c1, n1) => if 16 < made.length + x.length then some (none, C + c1, N + n1) else wcL go of' pt a n (j + 1) (made ++ x) (C + c1 + 1) (N + n1 + (made.length + x.length))
def wcF (ts : List (List Nat)) (of' pt : List Nat) : Nat → Nat → Option W3
  | 0, _ => none
  | f + 1, its => match headF ts of' its with
    | none => some (some [leF ts of' its ts.length], 1, 1)
    | some a => wcL (wcF ts of' pt f) of' pt a (pF (hdT ts a)) 0 [hdT ts a] 1 1
theorem wcL_mono {go : Nat → Option W3} {of' pt : List Nat} {a : Nat} : ∀ (n j : Nat) (made : List Nat) (C N : Nat) (r : Option (List Nat)) (C' N' : Nat), wcL go of' pt a n j made C N = some (r, C', N') → C ≤ C' ∧ N ≤ N'
  | 0, j, made, C, N, r, C', N', h => by cases h; exact ⟨Nat.le_refl _, Nat.le_refl _⟩
  | n + 1, j, made, C, N, r, C', N', h => by
    unfold wcL at h
    split at h
    · cases h
    · cases h; exact ⟨by omega, by omega⟩
    · split at h
      · cases h; exact ⟨by omega, by omega⟩
      · have := wcL_mono n (j + 1) _ _ _ r C' N' h
        omega
def wcP (h : AH) (r : Option (List Nat)) (v : Option Value) (h' : AH) : Prop := Ext h h' ∧ match r with
  | none => v = some .null
  | some x => x.length ≤ 16 ∧ TW x ∧ ∃ q, v = some (.ref q) ∧ h' q = some (IA x)
def anF (ts : List (List Nat)) (of' pt : List Nat) (F : Nat) : Nat → Nat → List (List Nat) → Nat → Nat → Option (Option (List (List Nat)) × Nat × Nat)
  | 0, _, rows, C, N => some (some rows, C, N)
  | n + 1, k, rows, C, N => if 10 ≤ hdT ts k then anF ts of' pt F n (k + 1) rows C N else match wcF ts of' pt F (of'.getD k 0) with
    | none => none
    | some (none, c1, n1) => some (none, C + c1, N + n1)
    | some (some x, c1, n1) => anF ts of' pt F n (k + 1) (rows.set (hdT ts k) x) (C + c1) (N + n1)
theorem anF_mono {ts : List (List Nat)} {of' pt : List Nat} {F : Nat} : ∀ (n k : Nat) (rows : List (List Nat)) (C N : Nat) (r : Option (List (List Nat))) (C' N' : Nat), anF ts of' pt F n k rows C N = some (r, C', N') → C ≤ C' ∧ N ≤ N'
  | 0, k, rows, C, N, r, C', N', h => by cases h; exact ⟨Nat.le_refl _, Nat.le_refl _⟩
  | n + 1, k, rows, C, N, r, C', N', h => by
    unfold anF at h
    split at h
    · exact anF_mono n (k + 1) _ _ _ r C' N' h
    · split at h
      · cases h
      · cases h; exact ⟨by omega, by omega⟩
      · have := anF_mono n (k + 1) _ _ _ r C' N' h
        omega
def an8P (B0 : Nat) (h : AH) (r : Option (List (List Nat))) (v : Option Value) (h' : AH) : Prop := match r with
  | none => v = some .null ∧ Ext h h'
  | some rows => AO rows ∧ newR B0 h rows v h'
section M75
variable {la : Launch} {D : va_G} {cA : Nat → ClassId} {B0 pa : Nat} {o8 T O Q : Nat} {ts : List (List Nat)} {of' pt : List Nat} {can : Bool}
def WcC (la : Launch) (D : va_G) (cA : Nat → ClassId) (B0 pa o8 T O Q : Nat) (ts : List (List Nat)) (of' pt : List Nat) (can : Bool) (f : Nat) : Prop := ∀ (h : AH) (its : Nat) (r : Option (List Nat)) (C N : Nat), CS h o8 T O Q ts of' pt can → its < 32 → (∃ k, k < ts.length ∧ of'.getD k 0 = its) → wcF ts of' pt f its = some (r, C, N) →
  CT la D cA B0 pa yX8_whole cX8_whole 6 (some (.array .int)) (rmD (f + 1) C N) [.ref o8, vI its] h (wcP h r)
set_option maxHeartbeats 16000000 in
theorem c_whole8 (hP : PtOk ts pt) : ∀ f : Nat, WcC la D cA B0 pa o8 T O Q ts of' pt can f
  | 0 => by
    intro h its r C N M h1 h2 hw
    cases hw
  | f + 1 => by
    have IH := c_whole8 hP f
    intro h its r C N M h1 h2 hw
    refine CT_of (by decide +kernel) (Nat.le_of_ble_eq_true rfl) ?_
    intro p e s m args below meth c X E hr hlk hnm
    have dk : ∀ {pc : Nat} {q : Instr × Nat}, lkd DX8_whole pc = some q → decode cX8_whole pc = .ok q := lkd_ok DX8_whole_ok
    have h32 : ts.length ≤ 32 := M.2.2.2.2.2.2.2.1
    unfold wcF at hw
    repeat refine fst1_ok X (dk rfl) rfl ?_
    refine callV_ok (ci := 10) (T := TX8) (N := 5) (av := [vI its]) (r := []) X E (c_headed h M h1) lkX8_headed mlX8_66 lmX8_headed lpX8_headed ⟨by show 0 + 1 ≤ f + 1 + 1; omega, by show 8 + (3 + 11) + 40 * 0 ≤ 40 * (f + 1 + 1); omega⟩ ⟨Nat.zero_le _, Nat.zero_le _⟩ rfl M.1 (Nat.le_of_ble_eq_true rfl) (dk rfl) ?_
    rintro v h9 ⟨rfl, rfl⟩
    rw [vP_pI]
    repeat refine fst1_ok X (dk rfl) rfl ?_
    cases ho : headF ts of' its with
    | none =>
      rw [ho] at hw
      dsimp only at hw
      simp only [Option.some.injEq, Prod.mk.injEq] at hw
      obtain ⟨rfl, rfl, rfl⟩ := hw
      refine br_ok X (dk rfl) rfl (show ((7 : Nat) : Int) + 54 = ((61 : Nat) : Int) from rfl) (fun q => absurd q (by decide)) (fun _ => ?_)
      have loop : ∀ (n k : Nat) (l : List (Nat × Value)), lsel l [4, 3, 1, 0] = [(4, vI k), (3, vI (leF ts of' its k)), (1, vI its), (0, .ref o8)] → k + n = ts.length → WR p la e (rmD (f + 1 + 1) 1 1) s m args below meth c D cA B0 6 (wcP h9 (some [leF ts of' its ts.length])) 16 l [] h9 0 0 := by
        intro n
        induction n with
        | zero =>
          intro k l hl hk
          have hkt : k = ts.length := by omega
          subst hkt
          have l8 := leF_8 ts of' its ts.length
          refine WS.sel [4, 3, 1, 0] hl ?_
          repeat refine fst1_ok X (dk rfl) rfl ?_
          refine getf_ok X flX8_35 (dk rfl) M.1 rfl ?_
          refine br_ok X (dk rfl) rfl (show ((22 : Nat) : Int) + 34 = ((56 : Nat) : Int) from rfl) (fun _ => ?_) (fun c1 => absurd ((nI_leI (by omega) (by omega)).mpr (by omega)) c1)
          refine fst1_ok X (dk rfl) rfl ?_
          refine callSN_ok (av := [vI (leF ts of' its ts.length)]) (r := []) X E (c_row h9 _) lkX10_row mnX8_79 lsX10_row ⟨by show 0 + 1 ≤ f + 1 + 1; omega, by show 8 + (1 + 11) + 40 * 0 ≤ 40 * (f + 1 + 1); omega⟩ ⟨Nat.le_of_ble_eq_true rfl, Nat.le_of_ble_eq_true rfl⟩ (Nat.le_of_ble_eq_true rfl) (dk rfl) ?_
          rintro v h4 ⟨q, rfl, hq, hBq, rfl⟩
          obtain ⟨i, i1, i2⟩ := h2
          have i3 := headF_no ho i1 i2
          obtain ⟨vs5, q5, r5, x, m1, m2, m3, m4, m5, m6, m7, m8, m9, m10⟩ := M.term i1
          have ex : hdT ts i = x := m9
          have i4 := leF_le (ts := ts) i2 i1
          have hlt : leF ts of' its ts.length < 8 := by rcases m8 with z | z <;> omega
          refine reta_ok X hr hlk (Or.inr ⟨_, rfl⟩) (Or.inr ⟨_, rfl⟩) (dk rfl) ⟨Ext.new hq _, Nat.le_of_ble_eq_true rfl, TW.name hlt, q, rfl, hup_self _ _ _⟩ (Nat.le_refl _) (Nat.le_refl _)
        | succ n ih =>
          intro k l hl hk
          have f2 : Value.int (nI k + Int32.ofInt 1) = vI (k + 1) := congrArg Value.int (by rw [nI_1', nI_add])
          obtain ⟨z1, z2, z3, z4⟩ := M.ofx (k := k) (by omega)
          obtain ⟨vs5, q5, r5, x, m1, m2, m3, m4, m5, m6, m7, m8, m9, m10⟩ := M.term (k := k) (by omega)
          have ex : hdT ts k = x := m9
          have x18 := m8.lt
          have l8 := leF_8 ts of' its k
          have next9 : ∀ l : List (Nat × Value), lsel l [4, 3, 1, 0] = [(4, vI k), (3, vI (leF ts of' its (k + 1))), (1, vI its), (0, .ref o8)] → WR p la e (rmD (f + 1 + 1) 1 1) s m args below meth c D cA B0 6 (wcP h9 (some [leF ts of' its ts.length])) 50 l [] h9 0 0 := by
            intro l hl
            refine WS.sel [4, 3, 1, 0] hl ?_
            repeat refine fst1_ok X (dk rfl) rfl ?_
            refine br_ok X (dk rfl) rfl (show ((53 : Nat) : Int) + (-37) = ((16 : Nat) : Int) from rfl) (fun _ => ?_) (fun q => absurd trivial q)
            refine WS.sel (l' := [(4, vI (k + 1)), (3, vI (leF ts of' its (k + 1))), (1, vI its), (0, .ref o8)]) [4, 3, 1, 0] (by rw [← f2]; rfl) ?_
            exact ih (k + 1) _ rfl (by omega)
          refine WS.sel [4, 3, 1, 0] hl ?_
          repeat refine fst1_ok X (dk rfl) rfl ?_
          refine getf_ok X flX8_35 (dk rfl) M.1 rfl ?_
          refine br_ok X (dk rfl) rfl (show ((22 : Nat) : Int) + 34 = ((56 : Nat) : Int) from rfl) (fun c1 => absurd (nI_ge' (by omega) (by omega) c1) (by omega)) (fun _ => ?_)
          refine fst1_ok X (dk rfl) rfl ?_
          refine getf_ok X flX8_17 (dk rfl) M.1 rfl ?_
          refine fst1_ok X (dk rfl) rfl ?_
          refine ald_ok X (Or.inl ⟨rfl, rfl⟩) (dk rfl) M.2.2.1 (inA_nI (by omega) (IA_get z2)) ?_
          refine fst1_ok X (dk rfl) rfl ?_
          refine br_ok X (dk rfl) rfl (show ((33 : Nat) : Int) + 17 = ((50 : Nat) : Int) from rfl) (fun c1 => ?_) (fun c1 => ?_)
          · have e1 : leF ts of' its (k + 1) = leF ts of' its k := by rw [leF_succ, if_neg (fun z => c1 (by rw [← z4, z]))]
            exact next9 _ (by rw [e1]; rfl)
          · have ey : z1 = its := (nI_eq (by omega) (by omega)).mp (Decidable.not_not.mp c1)
            have e1 : leF ts of' its (k + 1) = min (leF ts of' its k) x := by rw [leF_succ, if_pos (by rw [z4, ey]), ex]
            repeat refine fst1_ok X (dk rfl) rfl ?_
            refine getf_ok X flX8_11 (dk rfl) M.1 rfl ?_
            refine fst1_ok X (dk rfl) rfl ?_
            refine ld5_ok X (dk rfl) m1 m2 (by omega) ?_
            refine fst1_ok X (dk rfl) rfl ?_
            refine ald_ok X (Or.inl ⟨rfl, rfl⟩) (dk rfl) m4 (inA_nI (j := 0) (by omega) (IA_get m7)) ?_
            refine mmin_ok X (by omega) (by omega) mlX8_73 (dk rfl) (by show 1 ≤ f + 1 + 1; omega) (by show 0 + 13 ≤ 40 * (f + 1 + 1); omega) (Nat.zero_le _) (Nat.zero_le _) ?_
            refine fst1_ok X (dk rfl) rfl ?_
            exact next9 _ (by rw [e1]; rfl)
      iterate 4 refine fst1_ok X (dk rfl) rfl ?_
      exact loop ts.length 0 _ rfl (Nat.zero_add _)
    | some a =>
      have hal := (headF_ok ho).1
      rw [ho] at hw
      dsimp only at hw
      refine br_ok X (dk rfl) rfl (show ((7 : Nat) : Int) + 54 = ((61 : Nat) : Int) from rfl) (fun _ => ?_) (fun q => absurd (nI_pos' (by omega)) q)
      obtain ⟨vs5, q5, r5, x, m1, m2, m3, m4, m5, m6, m7, m8, m9, m10⟩ := M.term hal
      have hx18 := m8.lt
      have ex : hdT ts a = x := m9
      have hp3 : pF (hdT ts a) ≤ 3 := hdT_pF M hal
      have hCN := wcL_mono _ _ _ _ _ _ _ _ hw
      have loop : ∀ (n j q : Nat) (made : List Nat) (C0 N0 : Nat) (hh : AH) (l : List (Nat × Value)), lsel l [4, 3, 2, 0] = [(4, vI j), (3, .ref q), (2, vI a), (0, .ref o8)] → j + n = pF (hdT ts a) → Ext h9 hh → hh q = some (IA made) → Wnt made n → made.length ≤ 16 → wcL (wcF ts of' pt f) of' pt a n j made C0 N0 = some (r, C, N) → WR p la e (rmD (f + 1 + 1) C N) s m args below meth c D cA B0 6 (wcP h9 r) 76 l [] hh C0 N0 := by
        intro n
        induction n with
        | zero =>
          intro j q made C0 N0 hh l hl hj XX hq hW h16 hwl
          have MM := M.ext XX
          obtain ⟨vs6, q6, r6, x', n1, n2, n3, n4, n5, n6, n7, n8, n9, n10⟩ := MM.term hal
          have ex' : hdT ts a = x' := n9
          have hx' := n8.lt
          cases hwl
          refine WS.sel [4, 3, 2, 0] hl ?_
          repeat refine fst1_ok X (dk rfl) rfl ?_
          refine getf_ok X flX8_11 (dk rfl) MM.1 rfl ?_
          refine fst1_ok X (dk rfl) rfl ?_
          refine ld5_ok X (dk rfl) n1 n2 (by omega) ?_
          refine fst1_ok X (dk rfl) rfl ?_
          refine ald_ok X (Or.inl ⟨rfl, rfl⟩) (dk rfl) n4 (inA_nI (j := 0) (by omega) (IA_get n7)) ?_
          refine callSN_ok (av := [vI x']) (r := [vI j]) X E (c_parts hh (by omega)) lkX10_parts mnX8_39 lsX10_parts ⟨by show 0 + 1 ≤ f + 1 + 1; omega, by show 8 + (1 + 11) + 40 * 0 ≤ 40 * (f + 1 + 1); omega⟩ ⟨Nat.le_refl _, Nat.le_refl _⟩ (Nat.le_of_ble_eq_true rfl) (dk rfl) ?_
          rintro v h4 ⟨rfl, rfl⟩
          refine br_ok X (dk rfl) rfl (show ((89 : Nat) : Int) + 56 = ((145 : Nat) : Int) from rfl) (fun _ => ?_) (fun z => absurd ((nI_leI (by rw [← ex']; omega) (by omega)).mpr (by rw [← ex']; omega)) z)
          refine fst1_ok X (dk rfl) rfl ?_
          exact reta_ok X hr hlk (Or.inr ⟨_, rfl⟩) (Or.inr ⟨_, rfl⟩) (dk rfl) ⟨XX, h16, hW.tw, q, rfl, hq⟩ (Nat.le_refl _) (Nat.le_refl _)
        | succ n ih =>
          intro j q made C0 N0 hh l hl hj XX hq hW h16 hwl
          have MM := M.ext XX
          obtain ⟨vs6, q6, r6, x', n1, n2, n3, n4, n5, n6, n7, n8, n9, n10⟩ := MM.term hal
          have ex' : hdT ts a = x' := n9
          have hx' := n8.lt
          have f2 : Value.int (nI j + Int32.ofInt 1) = vI (j + 1) := congrArg Value.int (by rw [nI_1', nI_add])
          obtain ⟨p1, p2, p3, p4⟩ := MM.ptx (k := 3 * a + j) (by omega)
          have l1 := hP a hal j (by omega)
          rw [p4] at l1
          obtain ⟨z1, z2, z3, z4⟩ := MM.ofx (k := p1) (by omega)
          have lmade : (made.map vI).length = made.length := List.length_map _
          unfold wcL at hwl
          rw [p4, z4] at hwl
          refine WS.sel [4, 3, 2, 0] hl ?_
          repeat refine fst1_ok X (dk rfl) rfl ?_
          refine getf_ok X flX8_11 (dk rfl) MM.1 rfl ?_
          refine fst1_ok X (dk rfl) rfl ?_
          refine ld5_ok X (dk rfl) n1 n2 (by omega) ?_
          refine fst1_ok X (dk rfl) rfl ?_
          refine ald_ok X (Or.inl ⟨rfl, rfl⟩) (dk rfl) n4 (inA_nI (j := 0) (by omega) (IA_get n7)) ?_
          cases hg : wcF ts of' pt f z1 with
          | none => rw [hg] at hwl; cases hwl
          | some g =>
          obtain ⟨g, c1, n1'⟩ := g
          rw [hg] at hwl
          have hroom : C0 + c1 ≤ C ∧ N0 + n1' ≤ N := by
            cases g with
            | none => cases hwl; exact ⟨Nat.le_refl _, Nat.le_refl _⟩
            | some y =>
              dsimp only at hwl
              split at hwl
              · cases hwl; exact ⟨Nat.le_refl _, Nat.le_refl _⟩
              · have := wcL_mono _ _ _ _ _ _ _ _ hwl
                omega
          refine callSN_ok (av := [vI x']) (r := [vI j]) X E (c_parts hh (by omega)) lkX10_parts mnX8_39 lsX10_parts ⟨by show 0 + 1 ≤ f + 1 + 1; omega, by show 8 + (1 + 11) + 40 * 0 ≤ 40 * (f + 1 + 1); omega⟩ ⟨by show C0 + 0 ≤ C; omega, by show N0 + 0 ≤ N; omega⟩ (Nat.le_of_ble_eq_true rfl) (dk rfl) ?_
          rintro v h4 ⟨rfl, rfl⟩
          refine br_ok X (dk rfl) rfl (show ((89 : Nat) : Int) + 56 = ((145 : Nat) : Int) from rfl) (fun z => absurd (nI_ge' (by omega) (by rw [← ex']; omega) z) (by rw [← ex']; omega)) (fun _ => ?_)
          repeat refine fst1_ok X (dk rfl) rfl ?_
          refine getf_ok X flX8_17 (dk rfl) MM.1 rfl ?_
          refine fst1_ok X (dk rfl) rfl ?_
          refine getf_ok X flX8_20 (dk rfl) MM.1 rfl ?_
          repeat refine fst1_ok X (dk rfl) rfl ?_
          rw [nI_3', nI_mul, nI_add]
          refine ald_ok X (Or.inl ⟨rfl, rfl⟩) (dk rfl) MM.2.2.2.1 (inA_nI (by omega) (IA_get p2)) ?_
          refine ald_ok X (Or.inl ⟨rfl, rfl⟩) (dk rfl) MM.2.2.1 (inA_nI (by omega) (IA_get z2)) ?_
          refine callV_ok (ci := 10) (T := TX8) (N := 5) (av := [vI z1]) (r := []) X E (IH _ z1 g c1 n1' MM z3 ⟨p1, l1, z4⟩ hg) lkX8_whole mlX8_83 lmX8_whole lpX8_whole ⟨by show f + 1 + 1 ≤ f + 1 + 1; omega, by show 8 + (6 + 11) + 40 * (f + 1) ≤ 40 * (f + 1 + 1); omega⟩ hroom rfl MM.1 (Nat.le_of_ble_eq_true rfl) (dk rfl) ?_
          rintro v h5 ⟨X5, hv⟩
          have hq5 := X5 _ _ hq
          cases g with
          | none =>
            dsimp only at hv hwl
            subst hv
            simp only [Option.some.injEq, Prod.mk.injEq] at hwl
            obtain ⟨rfl, rfl, rfl⟩ := hwl
            repeat refine fst1_ok X (dk rfl) rfl ?_
            refine br_ok X (dk rfl) rfl (show ((116 : Nat) : Int) + 14 = ((130 : Nat) : Int) from rfl) (fun _ => ?_) (fun z => absurd trivial z)
            refine fst1_ok X (dk rfl) rfl ?_
            exact reta_ok X hr hlk (Or.inr ⟨_, rfl⟩) (Or.inl rfl) (dk rfl) ⟨XX.trans X5, rfl⟩ (Nat.le_refl _) (Nat.le_refl _)
          | some y =>
            dsimp only at hv hwl
            obtain ⟨y16, yTW, qy, rfl, hqy⟩ := hv
            have ly : (y.map vI).length = y.length := List.length_map _
            repeat refine fst1_ok X (dk rfl) rfl ?_
            refine br_ok X (dk rfl) rfl (show ((116 : Nat) : Int) + 14 = ((130 : Nat) : Int) from rfl) (fun z => absurd z (fun z => z)) (fun _ => ?_)
            refine fst1_ok X (dk rfl) rfl ?_
            refine alen_ok X (by decide) (dk rfl) hq5 ?_
            rw [lmade]
            refine fst1_ok X (dk rfl) rfl ?_
            refine alen_ok X (by decide) (dk rfl) hqy ?_
            rw [ly]
            repeat refine fst1_ok X (dk rfl) rfl ?_
            rw [nI_add, nI_16]
            refine br_ok X (dk rfl) rfl (show ((127 : Nat) : Int) + 5 = ((132 : Nat) : Int) from rfl) (fun c5 => ?_) (fun c5 => ?_)
            · have c6 : made.length + y.length ≤ 16 := (nI_leI (by omega) (by omega)).mp c5
              rw [if_neg (by omega)] at hwl
              have hm := wcL_mono _ _ _ _ _ _ _ _ hwl
              repeat refine fst1_ok X (dk rfl) rfl ?_
              refine callSN_ok (av := [.ref q, .ref qy]) (r := []) X E (c_joined h5 hq5 hqy (by omega) (by omega)) lkX10_joined mnX8_86 lsX10_joined ⟨by show 0 + 1 ≤ f + 1 + 1; omega, by show 8 + (4 + 11) + 40 * 0 ≤ 40 * (f + 1 + 1); omega⟩ ⟨by show C0 + c1 + 1 ≤ C; omega, by show N0 + n1' + (made.length + y.length) ≤ N; omega⟩ (Nat.le_of_ble_eq_true rfl) (dk rfl) ?_
              rintro v h6 ⟨q7, rfl, hq7, hB7, rfl⟩
              have X7 := Ext.new hq7 (IA (made ++ y))
              repeat refine fst1_ok X (dk rfl) rfl ?_
              refine br_ok X (dk rfl) rfl (show ((142 : Nat) : Int) + (-66) = ((76 : Nat) : Int) from rfl) (fun _ => ?_) (fun q => absurd trivial q)
              refine WS.sel (l' := [(4, vI (j + 1)), (3, .ref q7), (2, vI a), (0, .ref o8)]) [4, 3, 2, 0] (by rw [← f2]; rfl) ?_
              exact ih (j + 1) q7 (made ++ y) (C0 + c1 + 1) (N0 + n1' + (made.length + y.length)) _ _ rfl (by omega) ((XX.trans X5).trans X7) (hup_self _ _ _) (hW.more yTW) (by rw [List.length_append]; exact c6) hwl
            · have c6 : 16 < made.length + y.length := Nat.lt_of_not_le (fun z => c5 ((nI_leI (by omega) (by omega)).mpr z))
              rw [if_pos c6] at hwl
              simp only [Option.some.injEq, Prod.mk.injEq] at hwl
              obtain ⟨rfl, rfl, rfl⟩ := hwl
              refine fst1_ok X (dk rfl) rfl ?_
              exact reta_ok X hr hlk (Or.inr ⟨_, rfl⟩) (Or.inl rfl) (dk rfl) ⟨XX.trans X5, rfl⟩ (Nat.le_refl _) (Nat.le_refl _)
      refine fst1_ok X (dk rfl) rfl ?_
      refine getf_ok X flX8_11 (dk rfl) M.1 rfl ?_
      refine fst1_ok X (dk rfl) rfl ?_
      refine ld5_ok X (dk rfl) m1 m2 (by omega) ?_
      refine fst1_ok X (dk rfl) rfl ?_
      refine ald_ok X (Or.inl ⟨rfl, rfl⟩) (dk rfl) m4 (inA_nI (j := 0) (by omega) (IA_get m7)) ?_
      refine callSN_ok (av := [vI x]) (r := []) X E (c_row h9 x) lkX10_row mnX8_79 lsX10_row ⟨by show 0 + 1 ≤ f + 1 + 1; omega, by show 8 + (1 + 11) + 40 * 0 ≤ 40 * (f + 1 + 1); omega⟩ ⟨by show 0 + 1 ≤ C; omega, by show 0 + 1 ≤ N; omega⟩ (Nat.le_of_ble_eq_true rfl) (dk rfl) ?_
      rintro v h4 ⟨q, rfl, hq, hBq, rfl⟩
      iterate 3 refine fst1_ok X (dk rfl) rfl ?_
      exact loop (pF (hdT ts a)) 0 q [x] 1 1 _ _ rfl (Nat.zero_add _) (Ext.new hq _) (hup_self _ _ _) (by rw [ex]; exact Wnt.head m8) (Nat.le_of_ble_eq_true rfl) (by rw [← ex]; exact hw)
set_option maxHeartbeats 16000000 in
theorem c_answer8 (h : AH) (M : CS h o8 T O Q ts of' pt can) (hP : PtOk ts pt) {F : Nat} {r : Option (List (List Nat))} {C N : Nat} (hA : anF ts of' pt F ts.length 0 [[0], [1], [2], [3], [4], [5], [6], [7]] 9 16 = some (r, C, N)) : CT la D cA B0 pa yX8_answer cX8_answer 4 (some (.array (.array .int))) (rmD (F + 2) C N) [.ref o8] h (an8P B0 h r) := by
  refine CT_of (by decide +kernel) (Nat.le_of_ble_eq_true rfl) ?_
  intro p e s m args below meth c X E hr hlk hnm
  have dk : ∀ {pc : Nat} {q : Instr × Nat}, lkd DX8_answer pc = some q → decode cX8_answer pc = .ok q := lkd_ok DX8_answer_ok
  have h32 : ts.length ≤ 32 := M.2.2.2.2.2.2.2.1
  have hCN := anF_mono _ _ _ _ _ _ _ _ hA
  refine callSN_ok (av := []) (r := []) X E (c_none h) lkX10_none mnX8_90 lsX10_none ⟨by show 1 + 1 ≤ F + 2; omega, by show 8 + (2 + 11) + 40 * 1 ≤ 40 * (F + 2); omega⟩ ⟨by show 0 + 9 ≤ C; omega, by show 0 + 16 ≤ N; omega⟩ (Nat.le_of_ble_eq_true rfl) (dk rfl) ?_
  rintro v h1 ⟨A, rfl, hA0, hBA, X1, hA1⟩
  have loop : ∀ (n k : Nat) (rows : List (List Nat)) (C0 N0 : Nat) (hh : AH) (l : List (Nat × Value)), lsel l [2, 1, 0] = [(2, vI k), (1, .ref A), (0, .ref o8)] → k + n = ts.length → Ext h hh → Ans hh A rows → AO rows → anF ts of' pt F n k rows C0 N0 = some (r, C, N) → WR p la e (rmD (F + 2) C N) s m args below meth c D cA B0 4 (an8P B0 h r) 6 l [] hh C0 N0 := by
    intro n
    induction n with
    | zero =>
      intro k rows C0 N0 hh l hl hk XX hAn hAO hf
      have MM := M.ext XX
      cases hf
      refine WS.sel [2, 1, 0] hl ?_
      repeat refine fst1_ok X (dk rfl) rfl ?_
      refine getf_ok X flX8_35 (dk rfl) MM.1 rfl ?_
      refine br_ok X (dk rfl) rfl (show ((11 : Nat) : Int) + 53 = ((64 : Nat) : Int) from rfl) (fun _ => ?_) (fun c1 => absurd ((nI_leI (by omega) (by omega)).mpr (by omega)) c1)
      refine fst1_ok X (dk rfl) rfl ?_
      exact reta_ok X hr hlk (Or.inr ⟨_, rfl⟩) (Or.inr ⟨_, rfl⟩) (dk rfl) ⟨hAO, A, rfl, hA0, hBA, XX, hAn⟩ (Nat.le_refl _) (Nat.le_refl _)
    | succ n ih =>
      intro k rows C0 N0 hh l hl hk XX hAn hAO hf
      have MM := M.ext XX
      have f2 : Value.int (nI k + Int32.ofInt 1) = vI (k + 1) := congrArg Value.int (by rw [nI_1', nI_add])
      obtain ⟨vs6, q6, r6, x, n1, n2, n3, n4, n5, n6, n7, n8, n9, n10⟩ := MM.term (k := k) (by omega)
      have ex : hdT ts k = x := n9
      have hx18 := n8.lt
      have hC0 := anF_mono _ _ _ _ _ _ _ _ hf
      unfold anF at hf
      rw [ex] at hf
      have next9 : ∀ (rows : List (List Nat)) (C0 N0 : Nat) (hh : AH), Ext h hh → Ans hh A rows → AO rows → anF ts of' pt F n (k + 1) rows C0 N0 = some (r, C, N) → ∀ l : List (Nat × Value), lsel l [2, 1, 0] = [(2, vI k), (1, .ref A), (0, .ref o8)] → WR p la e (rmD (F + 2) C N) s m args below meth c D cA B0 4 (an8P B0 h r) 58 l [] hh C0 N0 := by
        intro rows C0 N0 hh XX hAn hAO hf l hl
        refine WS.sel [2, 1, 0] hl ?_
        repeat refine fst1_ok X (dk rfl) rfl ?_
        refine br_ok X (dk rfl) rfl (show ((61 : Nat) : Int) + (-55) = ((6 : Nat) : Int) from rfl) (fun _ => ?_) (fun q => absurd trivial q)
        refine WS.sel (l' := [(2, vI (k + 1)), (1, .ref A), (0, .ref o8)]) [2, 1, 0] (by rw [← f2]; rfl) ?_
        exact ih (k + 1) rows C0 N0 hh _ rfl (by omega) XX hAn hAO hf
      refine WS.sel [2, 1, 0] hl ?_
      repeat refine fst1_ok X (dk rfl) rfl ?_
      refine getf_ok X flX8_35 (dk rfl) MM.1 rfl ?_
      refine br_ok X (dk rfl) rfl (show ((11 : Nat) : Int) + 53 = ((64 : Nat) : Int) from rfl) (fun c1 => absurd (nI_ge' (by omega) (by omega) c1) (by omega)) (fun _ => ?_)
      refine fst1_ok X (dk rfl) rfl ?_
      refine getf_ok X flX8_11 (dk rfl) MM.1 rfl ?_
      refine fst1_ok X (dk rfl) rfl ?_
      refine ld5_ok X (dk rfl) n1 n2 (by omega) ?_
      refine fst1_ok X (dk rfl) rfl ?_
      refine ald_ok X (Or.inl ⟨rfl, rfl⟩) (dk rfl) n4 (inA_nI (j := 0) (by omega) (IA_get n7)) ?_
      refine fst1_ok X (dk rfl) rfl ?_
      rw [nI_10]
      refine br_ok X (dk rfl) rfl (show ((24 : Nat) : Int) + 6 = ((30 : Nat) : Int) from rfl) (fun c2 => ?_) (fun c2 => ?_)
      · have x10 : x < 10 := (nI_ltI (by omega) (by omega)).mp c2
        have x8 : x < 8 := by rcases n8 with z | z <;> omega
        rw [if_neg (by omega)] at hf
        obtain ⟨z1, z2, z3, z4⟩ := MM.ofx (k := k) (by omega)
        rw [z4] at hf
        cases hg : wcF ts of' pt F z1 with
        | none => rw [hg] at hf; cases hf
        | some g =>
        obtain ⟨g, c1, n1'⟩ := g
        rw [hg] at hf
        have hroom : C0 + c1 ≤ C ∧ N0 + n1' ≤ N := by
          cases g with
          | none => cases hf; exact ⟨Nat.le_refl _, Nat.le_refl _⟩
          | some y => exact anF_mono _ _ _ _ _ _ _ _ hf
        refine fst1_ok X (dk rfl) rfl ?_
        refine fst1_ok X (dk rfl) rfl ?_
        refine getf_ok X flX8_17 (dk rfl) MM.1 rfl ?_
        refine fst1_ok X (dk rfl) rfl ?_
        refine ald_ok X (Or.inl ⟨rfl, rfl⟩) (dk rfl) MM.2.2.1 (inA_nI (by omega) (IA_get z2)) ?_
        refine callV_ok (ci := 10) (T := TX8) (N := 5) (av := [vI z1]) (r := []) X E (c_whole8 hP F hh z1 g c1 n1' MM z3 ⟨k, by omega, z4⟩ hg) lkX8_whole mlX8_83 lmX8_whole lpX8_whole ⟨by show F + 1 + 1 ≤ F + 2; omega, by show 8 + (6 + 11) + 40 * (F + 1) ≤ 40 * (F + 2); omega⟩ hroom rfl MM.1 (Nat.le_of_ble_eq_true rfl) (dk rfl) ?_
        rintro v h5 ⟨X5, hv⟩
        have M5 := MM.ext X5
        cases g with
        | none =>
          dsimp only at hv hf
          subst hv
          simp only [Option.some.injEq, Prod.mk.injEq] at hf
          obtain ⟨rfl, rfl, rfl⟩ := hf
          repeat refine fst1_ok X (dk rfl) rfl ?_
          refine br_ok X (dk rfl) rfl (show ((42 : Nat) : Int) + 5 = ((47 : Nat) : Int) from rfl) (fun z => absurd z (fun z => z)) (fun _ => ?_)
          refine fst1_ok X (dk rfl) rfl ?_
          exact reta_ok X hr hlk (Or.inr ⟨_, rfl⟩) (Or.inl rfl) (dk rfl) ⟨rfl, XX.trans X5⟩ (Nat.le_refl _) (Nat.le_refl _)
        | some y =>
          dsimp only at hv hf
          obtain ⟨y16, yTW, qy, rfl, hqy⟩ := hv
          obtain ⟨vs, v1, v2, A2⟩ := AnsPut (hAn.ext X5) (k := x) (n := 8) x8 hqy hAO.1
          repeat refine fst1_ok X (dk rfl) rfl ?_
          refine br_ok X (dk rfl) rfl (show ((42 : Nat) : Int) + 5 = ((47 : Nat) : Int) from rfl) (fun _ => ?_) (fun z => absurd trivial z)
          repeat refine fst1_ok X (dk rfl) rfl ?_
          refine getf_ok X flX8_11 (dk rfl) M5.1 rfl ?_
          refine fst1_ok X (dk rfl) rfl ?_
          refine ld5_ok X (dk rfl) (X5 _ _ n1) n2 (by omega) ?_
          refine fst1_ok X (dk rfl) rfl ?_
          refine ald_ok X (Or.inl ⟨rfl, rfl⟩) (dk rfl) (X5 _ _ n4) (inA_nI (j := 0) (by omega) (IA_get n7)) ?_
          refine fst1_ok X (dk rfl) rfl ?_
          refine str_ok X (dk rfl) v1 hqy (by omega) (by omega) ?_
          exact next9 _ _ _ _ ((XX.trans X5).set hA0 _) A2 (hAO.set ⟨yTW, y16⟩) hf _ rfl
      · have x10 : 10 ≤ x := Nat.le_of_not_lt (fun z => c2 ((nI_ltI (by omega) (by omega)).mpr z))
        rw [if_pos x10] at hf
        refine br_ok X (dk rfl) rfl (show ((27 : Nat) : Int) + 31 = ((58 : Nat) : Int) from rfl) (fun _ => ?_) (fun q => absurd trivial q)
        exact next9 rows C0 N0 hh XX hAn hAO hf _ rfl
  iterate 3 refine fst1_ok X (dk rfl) rfl ?_
  exact loop ts.length 0 _ 9 16 h1 _ rfl (Nat.zero_add _) X1 hA1 AO_none hA
end M75
