/-! matched -/
def matchF (onto : List Nat) : List Nat → Nat → List (Option (List Nat)) → Option (List (Option (List Nat)))
  | [], _, told => some told
  | x :: r, b, told => if onto.length ≤ b then none else if 10 ≤ x then (if onto[b]? = some x then matchF onto r (b + 1) told else none) else
      match told.getD x none with
      | some t => if t = sub' onto b then matchF onto r (b + tl onto b) (told.set x (some (sub' onto b))) else none
      | none => matchF onto r (b + tl onto b) (told.set x (some (sub' onto b)))
def restT (told : List (Option (List Nat))) : List (List Nat) := (List.range 8).map (fun k => (told.getD k none).getD [k])
def matchL (one onto : List Nat) : Option (List (List Nat)) := (matchF onto one 0 (List.replicate 8 none)).map restT
/-- what is told so far -/
def TO (h : AH) (T : Nat) (told : List (Option (List Nat))) : Prop := ∃ os : List (Option Nat), os.length = 8 ∧ told.length = 8 ∧ h T = some (105, os.map va_rf) ∧
  (∀ (k : Nat) (r : List Nat), told[k]? = some (some r) → ∃ a, os[k]? = some (some a) ∧ h a = some (IA r)) ∧ ∀ k : Nat, told[k]? = some none → os[k]? = some none
theorem TO.ext {h h' : AH} {T : Nat} {told : List (Option (List Nat))} (H : TO h T told) (E : Ext h h') : TO h' T told := by
  obtain ⟨os, h1, h2, h3, h4, h5⟩ := H
  refine ⟨os, h1, h2, E _ _ h3, fun k r hk => ?_, h5⟩
  obtain ⟨a, e1, e2⟩ := h4 k r hk
  exact ⟨a, e1, E _ _ e2⟩
theorem TO.put {h : AH} {T a x : Nat} {told : List (Option (List Nat))} {r : List Nat} (H : TO h T told) (ha : h a = some (IA r)) (hx : x < 8) :
    ∃ vs, h T = some (105, vs) ∧ vs.length = 8 ∧ TO (hup h T (105, vs.set x (.ref a))) T (told.set x (some r)) := by
  obtain ⟨os, h1, h2, h3, h4, h5⟩ := H
  refine ⟨_, h3, by rw [List.length_map, h1], os.set x (some a), by simp [h1], by simp [h2], ?_, fun k r' hk => ?_, fun k hk => ?_⟩
  · rw [hup_self, List.map_set]
    rfl
  · by_cases hkx : k = x
    · subst hkx
      rw [List.getElem?_set_self (by omega)] at hk
      cases hk
      exact ⟨a, List.getElem?_set_self (by omega), by rw [hup_ne _ _ (IA_ne ha h3)]; exact ha⟩
    · rw [List.getElem?_set_ne (Ne.symm hkx)] at hk
      obtain ⟨a', e1, e2⟩ := h4 k r' hk
      exact ⟨a', by rw [List.getElem?_set_ne (Ne.symm hkx)]; exact e1, by rw [hup_ne _ _ (IA_ne e2 h3)]; exact e2⟩
  · by_cases hkx : k = x
    · subst hkx
      rw [List.getElem?_set_self (by omega)] at hk
      cases hk
    · rw [List.getElem?_set_ne (Ne.symm hkx)] at hk ⊢
      exact h5 k hk
/-- what is told is terms -/
def TT (told : List (Option (List Nat))) : Prop := told.length = 8 ∧ ∀ r, some r ∈ told → TW r ∧ r.length ≤ 16
theorem sub_ok {xs : List Nat} (h : TW xs) (hl : xs.length ≤ 16) {b : Nat} (hb : b < xs.length) : endL 1 (xs.drop b) = some (tl xs b) ∧ 0 < tl xs b ∧ b + tl xs b ≤ xs.length ∧ TW (sub' xs b) ∧ (sub' xs b).length = tl xs b := by
  obtain ⟨k, e1, e2, e3, e4⟩ := h.at hb
  have t1 : tl xs b = k := by unfold tl; rw [e1]; rfl
  refine ⟨by rw [t1]; exact e1, by omega, by omega, by unfold sub'; rw [t1]; exact e4, ?_⟩
  unfold sub'
  rw [t1]
  simp
  omega
theorem TT.set {told : List (Option (List Nat))} (h : TT told) {x : Nat} {r : List Nat} (hr : TW r ∧ r.length ≤ 16) : TT (told.set x (some r)) := by
  refine ⟨by simp [h.1], fun r' hr' => ?_⟩
  rcases List.mem_or_eq_of_mem_set hr' with q | q
  · exact h.2 r' q
  · cases q; exact hr
theorem restT_AO {told : List (Option (List Nat))} (h : TT told) : AO (restT told) := by
  refine ⟨by simp [restT], fun r hr => ?_⟩
  unfold restT at hr
  obtain ⟨k, hk, rfl⟩ := List.mem_map.mp hr
  have hk8 : k < 8 := List.mem_range.mp hk
  have hkl : k < told.length := by rw [h.1]; exact hk8
  rw [List.getD_eq_getElem?_getD, List.getElem?_eq_getElem hkl]
  cases hz : told[k] with
  | none => exact ⟨TW.name hk8, by simp⟩
  | some r => exact h.2 r (by rw [← hz]; exact List.getElem_mem hkl)
/-- null, or a new array of new rows -/
def optR (B0 : Nat) (h : AH) (o : Option (List (List Nat))) (v : Option Value) (h' : AH) : Prop := match o with
  | none => v = some .null ∧ Ext h h'
  | some rows => newR B0 h rows v h'
section M16
variable {la : Launch} {D : va_G} {cA : Nat → ClassId} {B0 pa : Nat}
set_option maxHeartbeats 16000000 in
theorem c_matched (h : AH) {o t : Nat} {one onto : List Nat} (ho : h o = some (IA one)) (ht : h t = some (IA onto)) (wo : ∀ x ∈ one, okL x) (wt : TW onto) (l1 : one.length ≤ 16) (l2 : onto.length ≤ 16) : CT la D cA B0 pa yX10_matched cX10_matched 9 (some (.array (.array .int))) (rmD 3 25 32) [.ref o, .ref t] h (fun v h' => optR B0 h (matchL one onto) v h' ∧ ∀ rows, matchL one onto = some rows → AO rows) := by
  refine CT_of (by decide +kernel) (Nat.le_of_ble_eq_true rfl) ?_
  intro p e s m args below meth c X E hr hlk hnm
  have dk : ∀ {pc : Nat} {q : Instr × Nat}, lkd DX10_matched pc = some q → decode cX10_matched pc = .ok q := lkd_ok DX10_matched_ok
  have lo : (one.map vI).length = one.length := List.length_map _
  have lt' : (onto.map vI).length = onto.length := List.length_map _
  repeat refine fst1_ok X (dk rfl) rfl ?_
  refine newR_ok (N := 8) (kd := 105) X E (by decide) cl10_9 (by decide) (dk rfl) (by decide) (by decide) (fun T hT hBT => ?_)
  have hoT : o ≠ T := fun z => by rw [z, hT] at ho; cases ho
  repeat refine fst1_ok X (dk rfl) rfl ?_
  refine alen_ok (kd := 100) (vs := one.map vI) X (by decide) (dk rfl) (by rw [hup_ne _ _ hoT]; exact ho) ?_
  rw [lo]
  -- the names that are told of nothing: from 113 on
  have fill : ∀ (d j : Nat), d = 8 - j → j ≤ 8 → ∀ (told : List (Option (List Nat))), TT told → (∀ i, i < j → ∃ r, told[i]? = some (some r)) → matchL one onto = some (restT told) → ∀ (hh : AH) (l : List (Nat × Value)), lsel l [4, 2] = [(4, vI j), (2, .ref T)] → Ext h hh → TO hh T told → WR p la e (rmD 3 25 32) s m args below meth c D cA B0 9 (fun v h' => optR B0 h (matchL one onto) v h' ∧ ∀ rows, matchL one onto = some rows → AO rows) 113 l [] hh (17 + j) (24 + j) := by
    intro d
    induction d with
    | zero =>
      intro j hd hj told hTT hall hF hh l hl hE hTO
      have hj2 : j = 8 := by omega
      subst hj2
      refine WS.sel [4, 2] hl ?_
      repeat refine fst1_ok X (dk rfl) rfl ?_
      refine br_ok X (dk rfl) rfl (show ((117 : Nat) : Int) + 25 = ((142 : Nat) : Int) from rfl) (fun c1 => ?_) (fun c1 => absurd (by decide) c1)
      repeat refine fst1_ok X (dk rfl) rfl ?_
      refine reta_ok X hr hlk (Or.inr ⟨_, rfl⟩) (Or.inr ⟨_, rfl⟩) (dk rfl) ⟨?_, fun rows hrows => ?_⟩ (Nat.le_refl _) (Nat.le_refl _)
      · rw [hF]
        obtain ⟨os, h1, h2, h3, h4, h5⟩ := hTO
        have hos : ∀ i, i < 8 → ∃ r a, told[i]? = some (some r) ∧ os[i]? = some (some a) ∧ hh a = some (IA r) := by
          intro i hi
          obtain ⟨r, hr'⟩ := hall i hi
          obtain ⟨a, e1, e2⟩ := h4 i r hr'
          exact ⟨r, a, hr', e1, e2⟩
        have hmap : os.map va_rf = (os.map (fun z => z.getD 0)).map Value.ref := by
          rw [List.map_map]
          apply List.map_congr_left
          intro z hz
          obtain ⟨i, hi⟩ := List.getElem?_of_mem hz
          have hi8 : i < 8 := by rw [← h1]; exact (List.getElem?_eq_some_iff.mp hi).1
          obtain ⟨r, a, -, e1, -⟩ := hos i hi8
          cases hi.symm.trans e1
          rfl
        refine ⟨T, rfl, hT, hBT, hE, os.map (fun z => z.getD 0), by simp [restT, h1], by rw [h3, hmap], fun k a r hk hr' => ?_⟩
        have hk8 : k < 8 := by
          have := (List.getElem?_eq_some_iff.mp hk).1
          rw [List.length_map, h1] at this
          exact this
        obtain ⟨r0, a0, e0, e1, e2⟩ := hos k hk8
        rw [List.getElem?_map, e1] at hk
        cases hk
        have : r = r0 := by
          unfold restT at hr'
          rw [List.getElem?_map, List.getElem?_range hk8] at hr'
          simp only [Option.map_some, Option.some.injEq] at hr'
          rw [← hr', List.getD_eq_getElem?_getD, e0]
          rfl
        rw [this]
        exact e2
      · rw [hF] at hrows
        cases hrows
        exact restT_AO hTT
    | succ d ih =>
      intro j hd hj told hTT hall hF hh l hl hE hTO
      have hTO' := hTO
      obtain ⟨os, h1, h2, h3, h4, h5⟩ := hTO'
      have f2 : Value.int (nI j + Int32.ofInt 1) = vI (j + 1) := congrArg Value.int (by rw [nI_1', nI_add])
      obtain ⟨w, hw⟩ : ∃ w, told[j]? = some w := ⟨told[j]'(by omega), by simp⟩
      refine WS.sel [4, 2] hl ?_
      repeat refine fst1_ok X (dk rfl) rfl ?_
      refine br_ok X (dk rfl) rfl (show ((117 : Nat) : Int) + 25 = ((142 : Nat) : Int) from rfl) (fun c1 => absurd c1 (nI_ge (b := 8) (by omega) (by omega))) (fun c1 => ?_)
      repeat refine fst1_ok X (dk rfl) rfl ?_
      cases w with
      | some r =>
        obtain ⟨a, e1, e2⟩ := h4 j r hw
        refine ald_ok X (Or.inr (Or.inr ⟨rfl, by decide⟩)) (dk rfl) h3 (inA_nI (v := .ref a) (by omega) (by rw [List.getElem?_map, e1]; rfl)) ?_
        refine br_ok X (dk rfl) rfl (show ((124 : Nat) : Int) + 12 = ((136 : Nat) : Int) from rfl) (fun c2 => ?_) (fun c2 => absurd trivial c2)
        repeat refine fst1_ok X (dk rfl) rfl ?_
        refine br_ok X (dk rfl) rfl (show ((139 : Nat) : Int) + (-26) = ((113 : Nat) : Int) from rfl) (fun _ => ?_) (fun q => absurd trivial q)
        refine WS.sel (l' := [(4, vI (j + 1)), (2, .ref T)]) [4, 2] (by rw [← f2]; rfl) ?_
        refine WS.widen (k' := 17 + (j + 1)) (n' := 24 + (j + 1)) (by omega) (by omega) ?_
        refine ih (j + 1) (by omega) (by omega) told hTT (fun i hi => ?_) hF hh _ rfl hE hTO
        rcases Nat.lt_or_ge i j with q | q
        · exact hall i q
        · exact ⟨r, by rw [show i = j by omega]; exact hw⟩
      | none =>
        have e1 := h5 j hw
        refine ald_ok X (Or.inr (Or.inr ⟨rfl, by decide⟩)) (dk rfl) h3 (inA_nI (v := .null) (by omega) (by rw [List.getElem?_map, e1]; rfl)) ?_
        refine br_ok X (dk rfl) rfl (show ((124 : Nat) : Int) + 12 = ((136 : Nat) : Int) from rfl) (fun c2 => absurd c2 (fun z => z)) (fun c2 => ?_)
        repeat refine fst1_ok X (dk rfl) rfl ?_
        refine callS_ok (av := [vI j]) (r := [vI j, .ref T]) X E (c_row hh j) lkX10_row mlX10_20 lsX10_row ⟨Nat.le_of_ble_eq_true rfl, Nat.le_of_ble_eq_true rfl⟩ ⟨by show 17 + j + 1 ≤ 25; omega, by show 24 + j + 1 ≤ 32; omega⟩ (Nat.le_of_ble_eq_true rfl) (dk rfl) ?_
        rintro v h2 ⟨u, rfl, hu, hBu, rfl⟩
        have hX := Ext.new hu (IA [j])
        obtain ⟨vs, g1, g2, g3⟩ := (hTO.ext hX).put (x := j) (hup_self hh u (IA [j])) (by omega)
        refine str_ok X (dk rfl) g1 (hup_self _ _ _) (by omega) (by omega) ?_
        repeat refine fst1_ok X (dk rfl) rfl ?_
        refine br_ok X (dk rfl) rfl (show ((139 : Nat) : Int) + (-26) = ((113 : Nat) : Int) from rfl) (fun _ => ?_) (fun q => absurd trivial q)
        refine WS.sel (l' := [(4, vI (j + 1)), (2, .ref T)]) [4, 2] (by rw [← f2]; rfl) ?_
        refine ih (j + 1) (by omega) (by omega) (told.set j (some [j])) (hTT.set ⟨TW.name (by omega), by simp⟩) (fun i hi => ?_) ?_ _ _ rfl ((hE.trans hX).set hT _) g3
        · rcases Nat.lt_or_ge i j with q | q
          · rw [List.getElem?_set_ne (by omega)]; exact hall i q
          · exact ⟨[j], by rw [show i = j by omega, List.getElem?_set_self (by omega)]⟩
        · rw [hF]
          congr 1
          unfold restT
          apply List.map_congr_left
          intro k hk
          rw [List.getD_eq_getElem?_getD, List.getD_eq_getElem?_getD]
          by_cases hkj : k = j
          · subst hkj
            rw [hw, List.getElem?_set_self (by omega)]
            rfl
          · rw [List.getElem?_set_ne (Ne.symm hkj)]
  -- the letters: from 19 on
  have loop : ∀ (d j : Nat), d = one.length - j → j ≤ one.length → ∀ (b : Nat) (told : List (Option (List Nat))), b ≤ onto.length → TT told → matchL one onto = (matchF onto (one.drop j) b told).map restT → ∀ (hh : AH) (l : List (Nat × Value)), lsel l [6, 5, 4, 3, 2, 1] = [(6, vI j), (5, vI one.length), (4, .ref o), (3, vI b), (2, .ref T), (1, .ref t)] → Ext h hh → TO hh T told →
      WR p la e (rmD 3 25 32) s m args below meth c D cA B0 9 (fun v h' => optR B0 h (matchL one onto) v h' ∧ ∀ rows, matchL one onto = some rows → AO rows) 19 l [] hh (1 + j) (8 + b) := by
    intro d
    induction d with
    | zero =>
      intro j hd hj b told hb hTT hF hh l hl hE hTO
      have hj2 : j = one.length := by omega
      subst hj2
      rw [List.drop_length] at hF
      refine WS.sel [6, 5, 4, 3, 2, 1] hl ?_
      repeat refine fst1_ok X (dk rfl) rfl ?_
      refine br_ok X (dk rfl) rfl (show ((23 : Nat) : Int) + 87 = ((110 : Nat) : Int) from rfl) (fun c1 => ?_) (fun c1 => absurd (Int32.le_refl _) c1)
      iterate 2 refine fst1_ok X (dk rfl) rfl ?_
      refine WS.widen (k' := 17 + 0) (n' := 24 + 0) (by omega) (by omega) ?_
      exact fill 8 0 rfl (by omega) told hTT (fun i hi => by omega) hF hh _ rfl hE hTO
    | succ d ih =>
      intro j hd hj b told hb hTT hF hh l hl hE hTO
      obtain ⟨x, hx1⟩ : ∃ x, one[j]? = some x := ⟨one[j]'(by omega), by simp⟩
      have hok := wo x (List.mem_of_getElem? hx1)
      have hx18 := hok.lt
      rw [drop_cons hx1] at hF
      unfold matchF at hF
      have f2 : Value.int (nI j + Int32.ofInt 1) = vI (j + 1) := congrArg Value.int (by rw [nI_1', nI_add])
      -- the answer null
      have null' : matchL one onto = none → ∀ (pc : Nat) (l : List (Nat × Value)) (k n : Nat) (h4 : AH), lkd DX10_matched pc = some (.aconst_null, 1) → lkd DX10_matched (pc + 1) = some (.areturn, 1) → Ext h h4 → k ≤ 25 → n ≤ 32 → WR p la e (rmD 3 25 32) s m args below meth c D cA B0 9 (fun v h' => optR B0 h (matchL one onto) v h' ∧ ∀ rows, matchL one onto = some rows → AO rows) pc l [] h4 k n := by
        intro hN pc l k n h4 d1 d2 hE4 hk hn
        refine fst1_ok (l' := l) (st' := [.null]) X (dk d1) rfl ?_
        refine reta_ok X hr hlk (Or.inr ⟨_, rfl⟩) (Or.inl rfl) (dk d2) ⟨?_, fun rows hrows => by rw [hN] at hrows; cases hrows⟩ hk hn
        rw [hN]
        exact ⟨rfl, hE4⟩
      refine WS.sel [6, 5, 4, 3, 2, 1] hl ?_
      repeat refine fst1_ok X (dk rfl) rfl ?_
      refine br_ok X (dk rfl) rfl (show ((23 : Nat) : Int) + 87 = ((110 : Nat) : Int) from rfl) (fun c1 => absurd c1 (nI_ge (by omega) (by omega))) (fun c1 => ?_)
      repeat refine fst1_ok X (dk rfl) rfl ?_
      refine ald_ok X (Or.inl ⟨rfl, rfl⟩) (dk rfl) (hE _ _ ho) (inA_nI (by omega) (IA_get hx1)) ?_
      repeat refine fst1_ok X (dk rfl) rfl ?_
      refine alen_ok X (by decide) (dk rfl) (hE _ _ ht) ?_
      rw [lt']
      refine br_ok X (dk rfl) rfl (show ((36 : Nat) : Int) + 5 = ((41 : Nat) : Int) from rfl) (fun c2 => ?_) (fun c2 => ?_)
      · have hbl : b < onto.length := (nI_ltI (by omega) (by omega)).mp c2
        rw [if_neg (by omega)] at hF
        obtain ⟨g1, g2, g3, g4, g5⟩ := sub_ok wt l2 hbl
        obtain ⟨y, hy1⟩ : ∃ y, onto[b]? = some y := ⟨onto[b]'hbl, by simp⟩
        have hy18 := (wt.2 y (List.mem_of_getElem? hy1)).lt
        repeat refine fst1_ok X (dk rfl) rfl ?_
        refine br_ok X (dk rfl) rfl (show ((45 : Nat) : Int) + 19 = ((64 : Nat) : Int) from rfl) (fun c3 => ?_) (fun c3 => ?_)
        · rw [nI_10] at c3
          have hx10 : x < 10 := (nI_ltI (by omega) (by omega)).mp c3
          have hx8 : x < 8 := by rcases hok with q | q <;> omega
          rw [if_neg (by omega)] at hF
          repeat refine fst1_ok X (dk rfl) rfl ?_
          refine callS_ok (av := [.ref t, vI b]) (r := []) X E (c_at hh (hE _ _ ht) wt.lt (by omega) g1) lkX10_at mlX10_74 lsX10_at ⟨Nat.le_of_ble_eq_true rfl, Nat.le_of_ble_eq_true rfl⟩ ⟨by show 1 + j + 1 ≤ 25; omega, by show 8 + b + tl onto b ≤ 32; omega⟩ (Nat.le_of_ble_eq_true rfl) (dk rfl) ?_
          rintro v h1 ⟨u, rfl, hu, hBu, rfl⟩
          have hX := Ext.new hu (IA (sub' onto b))
          have hE1 : Ext h (hup hh u (IA (sub' onto b))) := hE.trans hX
          have hTO1 : TO (hup hh u (IA (sub' onto b))) T told := hTO.ext hX
          have hu1 : hup hh u (IA (sub' onto b)) u = some (IA (sub' onto b)) := hup_self _ _ _
          change WR p la e (rmD 3 25 32) s m args below meth c D cA B0 9 (fun v h' => optR B0 h (matchL one onto) v h' ∧ ∀ rows, matchL one onto = some rows → AO rows) _ _ _ (hup hh u (IA (sub' onto b))) (1 + j + 1) (8 + b + tl onto b)
          generalize hup hh u (IA (sub' onto b)) = h1 at hE1 hTO1 hu1 ⊢
          -- told[letter] = its; b = end(onto, b): from 92 on
          have put' : matchL one onto = (matchF onto (one.drop (j + 1)) (b + tl onto b) (told.set x (some (sub' onto b)))).map restT → ∀ (l : List (Nat × Value)), lsel l [8, 7, 6, 5, 4, 3, 2, 1] = [(8, .ref u), (7, vI x), (6, vI j), (5, vI one.length), (4, .ref o), (3, vI b), (2, .ref T), (1, .ref t)] → WR p la e (rmD 3 25 32) s m args below meth c D cA B0 9 (fun v h' => optR B0 h (matchL one onto) v h' ∧ ∀ rows, matchL one onto = some rows → AO rows) 92 l [] h1 (1 + j + 1) (8 + b + tl onto b) := by
            intro hF2 l hl
            obtain ⟨vs, w1, w2, w3⟩ := hTO1.put (x := x) hu1 hx8
            refine WS.sel [8, 7, 6, 5, 4, 3, 2, 1] hl ?_
            repeat refine fst1_ok X (dk rfl) rfl ?_
            refine str_ok X (dk rfl) w1 hu1 (by omega) (by omega) ?_
            have hE2 : Ext h (hup h1 T (105, vs.set x (.ref u))) := hE1.set hT _
            repeat refine fst1_ok X (dk rfl) rfl ?_
            refine callS_ok (av := [.ref t, vI b]) (r := []) X E (c_end _ (hE2 _ _ ht) wt.lt (by omega) g1) lkX10_end mlX10_36 lsX10_end ⟨Nat.le_of_ble_eq_true rfl, Nat.le_of_ble_eq_true rfl⟩ ⟨by show 1 + j + 1 + 0 ≤ 25; omega, by show 8 + b + tl onto b + 0 ≤ 32; omega⟩ (Nat.le_of_ble_eq_true rfl) (dk rfl) ?_
            rintro v h6 ⟨rfl, hh6⟩
            subst hh6
            repeat refine fst1_ok X (dk rfl) rfl ?_
            refine br_ok X (dk rfl) rfl (show ((107 : Nat) : Int) + (-88) = ((19 : Nat) : Int) from rfl) (fun _ => ?_) (fun q => absurd trivial q)
            refine WS.sel (l' := [(6, vI (j + 1)), (5, vI one.length), (4, .ref o), (3, vI (b + tl onto b)), (2, .ref T), (1, .ref t)]) [6, 5, 4, 3, 2, 1] (by rw [← f2]; rfl) ?_
            refine WS.widen (k' := 1 + (j + 1)) (n' := 8 + (b + tl onto b)) (by show 1 + j + 1 + 0 ≤ _; omega) (by show 8 + b + tl onto b + 0 ≤ _; omega) ?_
            exact ih (j + 1) (by omega) (by omega) (b + tl onto b) _ (by omega) (hTT.set ⟨g4, by omega⟩) hF2 _ _ rfl hE2 w3
          have hTO2 := hTO1
          obtain ⟨os, t1, t2, t3, t4, t5⟩ := hTO2
          obtain ⟨w, hw⟩ : ∃ w, told[x]? = some w := ⟨told[x]'(by omega), by simp⟩
          rw [List.getD_eq_getElem?_getD, hw] at hF
          repeat refine fst1_ok X (dk rfl) rfl ?_
          cases w with
          | none =>
            simp only [Option.getD_some] at hF
            refine ald_ok X (Or.inr (Or.inr ⟨rfl, by decide⟩)) (dk rfl) t3 (inA_nI (v := .null) (by omega) (by rw [List.getElem?_map, t5 x hw]; rfl)) ?_
            refine br_ok X (dk rfl) rfl (show ((75 : Nat) : Int) + 17 = ((92 : Nat) : Int) from rfl) (fun c4 => ?_) (fun c4 => absurd trivial c4)
            exact put' hF _ rfl
          | some r =>
            simp only [Option.getD_some] at hF
            obtain ⟨a, e1, e2⟩ := t4 x r hw
            have hrr := hTT.2 r (List.mem_of_getElem? hw)
            refine ald_ok X (Or.inr (Or.inr ⟨rfl, by decide⟩)) (dk rfl) t3 (inA_nI (v := .ref a) (by omega) (by rw [List.getElem?_map, e1]; rfl)) ?_
            refine br_ok X (dk rfl) rfl (show ((75 : Nat) : Int) + 17 = ((92 : Nat) : Int) from rfl) (fun c4 => absurd c4 (fun z => z)) (fun c4 => ?_)
            repeat refine fst1_ok X (dk rfl) rfl ?_
            refine ald_ok X (Or.inr (Or.inr ⟨rfl, by decide⟩)) (dk rfl) t3 (inA_nI (v := .ref a) (by omega) (by rw [List.getElem?_map, e1]; rfl)) ?_
            repeat refine fst1_ok X (dk rfl) rfl ?_
            refine callS_ok (av := [.ref a, .ref u]) (r := []) X E (c_same h1 e2 hu1 (by omega) (by omega) hrr.1.lt g4.lt) lkX10_same mlX10_54 lsX10_same ⟨Nat.le_of_ble_eq_true rfl, Nat.le_of_ble_eq_true rfl⟩ ⟨by show 1 + j + 1 + 0 ≤ 25; omega, by show 8 + b + tl onto b + 0 ≤ 32; omega⟩ (Nat.le_of_ble_eq_true rfl) (dk rfl) ?_
            rintro v h6 ⟨rfl, hh6⟩
            subst hh6
            by_cases hrs : r = sub' onto b
            · rw [if_pos hrs] at hF ⊢
              refine br_ok X (dk rfl) rfl (show ((87 : Nat) : Int) + 5 = ((92 : Nat) : Int) from rfl) (fun c5 => ?_) (fun c5 => absurd (by decide) c5)
              exact put' hF _ rfl
            · rw [if_neg hrs] at hF ⊢
              refine br_ok X (dk rfl) rfl (show ((87 : Nat) : Int) + 5 = ((92 : Nat) : Int) from rfl) (fun c5 => absurd rfl c5) (fun c5 => ?_)
              exact null' hF 90 _ _ _ _ rfl rfl hE1 (by show 1 + j + 1 + 0 ≤ 25; omega) (by show 8 + b + tl onto b + 0 ≤ 32; omega)
        · rw [nI_10] at c3
          have hx10 : 10 ≤ x := by
            rcases Nat.lt_or_ge x 10 with z | z
            · exact absurd ((nI_ltI (by omega) (by omega)).mpr z) c3
            · exact z
          rw [if_pos hx10, hy1] at hF
          repeat refine fst1_ok X (dk rfl) rfl ?_
          refine ald_ok X (Or.inl ⟨rfl, rfl⟩) (dk rfl) (hE _ _ ht) (inA_nI (by omega) (IA_get hy1)) ?_
          repeat refine fst1_ok X (dk rfl) rfl ?_
          refine br_ok X (dk rfl) rfl (show ((53 : Nat) : Int) + 5 = ((58 : Nat) : Int) from rfl) (fun c4 => ?_) (fun c4 => ?_)
          · have hyx : y = x := (nI_eq (by omega) (by omega)).mp c4
            rw [if_pos (by rw [hyx])] at hF
            repeat refine fst1_ok X (dk rfl) rfl ?_
            refine br_ok X (dk rfl) rfl (show ((61 : Nat) : Int) + 43 = ((104 : Nat) : Int) from rfl) (fun _ => ?_) (fun q => absurd trivial q)
            repeat refine fst1_ok X (dk rfl) rfl ?_
            refine br_ok X (dk rfl) rfl (show ((107 : Nat) : Int) + (-88) = ((19 : Nat) : Int) from rfl) (fun _ => ?_) (fun q => absurd trivial q)
            have f3 : Value.int (nI b + Int32.ofInt 1) = vI (b + 1) := congrArg Value.int (by rw [nI_1', nI_add])
            refine WS.sel (l' := [(6, vI (j + 1)), (5, vI one.length), (4, .ref o), (3, vI (b + 1)), (2, .ref T), (1, .ref t)]) [6, 5, 4, 3, 2, 1] (by rw [← f2, ← f3]; rfl) ?_
            refine WS.widen (k' := 1 + (j + 1)) (n' := 8 + (b + 1)) (by omega) (by omega) ?_
            exact ih (j + 1) (by omega) (by omega) (b + 1) told (by omega) hTT hF hh _ rfl hE hTO
          · have hyx : ¬ y = x := fun z => c4 (by rw [z])
            rw [if_neg (fun z => hyx (Option.some.inj z))] at hF
            exact null' hF 56 _ _ _ _ rfl rfl hE (by omega) (by omega)
      · have hbl : onto.length ≤ b := by
          rcases Nat.lt_or_ge b onto.length with z | z
          · exact absurd ((nI_ltI (by omega) (by omega)).mpr z) c2
          · exact z
        rw [if_pos hbl] at hF
        exact null' hF 39 _ _ _ _ rfl rfl hE (by omega) (by omega)
  iterate 3 refine fst1_ok X (dk rfl) rfl ?_
  refine loop _ 0 rfl (Nat.zero_le _) 0 (List.replicate 8 none) (Nat.zero_le _) ⟨rfl, fun r hr => by simp at hr⟩ rfl _ _ rfl (Ext.new hT _) ⟨List.replicate 8 none, rfl, rfl, hup_self _ _ _, fun k r hk => ?_, fun k hk => ?_⟩
  · rw [List.getElem?_replicate] at hk
    split at hk <;> cases hk
  · rw [List.getElem?_replicate] at hk ⊢
    split at hk
    · rename_i hk8
      rw [if_pos hk8]
    · cases hk
end M16
