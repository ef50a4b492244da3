/-! the class, strongly: one term matched onto another one (printed by wip/p20/genT2.py) -/
theorem ltX_nil (x : Int32) : ltX [] x = (Int8.ofInt (-9)).toInt32 := by
  unfold ltX
  split
  · rfl
  · rfl
/-- eight terms, told so far -/
def mtG (told : List (Option (List Nat))) (n : Nat) : TC := match told.getD n none with
  | some t => (t.map nI, false)
  | none => ([], false)
theorem mtG_set {told : List (Option (List Nat))} {x : Nat} (hx : x < told.length) (t : List Nat) (n : Nat) : mtG (told.set x (some t)) n = if n = x then (t.map nI, false) else mtG told n := by
  unfold mtG
  rw [List.getD_eq_getElem?_getD, List.getD_eq_getElem?_getD]
  by_cases e : n = x
  · subst e
    rw [List.getElem?_set_self hx, if_pos rfl]
    rfl
  · rw [List.getElem?_set_ne (Ne.symm e), if_neg e]
theorem upK_congr {F : Nat → TC} {f : Nat} {G G' : Nat → TC} {k : Nat} (h : ∀ n, n < k → G n = G' n) : upK F f G k = upK F f G' k := by
  funext j
  unfold upK
  split
  · rename_i hj
    exact h _ (by omega)
  · rfl
theorem upK_one {F : Nat → TC} {f x : Nat} {G : Nat → TC} (hx : x < 8) (c : TC) : upF (upK F f G 8) (f + x) c = upK F f (fun n => if n = x then c else G n) 8 := by
  funext j
  unfold upF upK
  by_cases e : j = f + x
  · subst e
    rw [if_pos rfl, if_pos (by omega), Nat.add_sub_cancel_left]
    exact (if_pos rfl).symm
  · rw [if_neg e]
    by_cases h : f ≤ j ∧ j < f + 8
    · rw [if_pos h, if_pos h]
      exact (if_neg (by omega)).symm
    · rw [if_neg h, if_neg h]
theorem mtG_none (n : Nat) : mtG (List.replicate 8 none) n = ([], false) := by
  unfold mtG
  rw [List.getD_eq_getElem?_getD, List.getElem?_replicate]
  split <;> rename_i h <;> first | rfl | skip
  all_goals (split at h <;> simp at h)
theorem mF_out {onto : List Nat} {y b : Nat} {r : List Nat} {told : List (Option (List Nat))} (h : onto.length ≤ b) : matchF onto (y :: r) b told = none := by
  unfold matchF
  rw [if_pos h]
theorem mF_hd {onto : List Nat} {y b : Nat} {r : List Nat} {told : List (Option (List Nat))} (h : ¬ onto.length ≤ b) (h10 : 10 ≤ y) : matchF onto (y :: r) b told = if onto[b]? = some y then matchF onto r (b + 1) told else none := by
  rw [matchF, if_neg h, if_pos h10]
theorem mF_no {onto : List Nat} {y b : Nat} {r : List Nat} {told : List (Option (List Nat))} (h : ¬ onto.length ≤ b) (h10 : ¬ 10 ≤ y) (e : told.getD y none = none) : matchF onto (y :: r) b told = matchF onto r (b + tl onto b) (told.set y (some (sub' onto b))) := by
  rw [matchF, if_neg h, if_neg h10, e]
theorem mF_so {onto : List Nat} {y b : Nat} {r t : List Nat} {told : List (Option (List Nat))} (h : ¬ onto.length ≤ b) (h10 : ¬ 10 ≤ y) (e : told.getD y none = some t) : matchF onto (y :: r) b told = if t = sub' onto b then matchF onto r (b + tl onto b) (told.set y (some (sub' onto b))) else none := by
  rw [matchF, if_neg h, if_neg h10, e]
theorem TW_take {t ys : List Nat} (ht : TW t) {b : Nat} (hb : endL 1 (ys.drop b) = some (tl ys b)) : ((t.drop 0).take t.length = (ys.drop b).take t.length) ↔ t = sub' ys b := by
  rw [List.drop_zero, List.take_length]
  constructor
  · intro e
    have h2 := endL_app t ((ys.drop b).drop t.length) 1 t.length ht.1
    have h3 := List.take_append_drop t.length (ys.drop b)
    rw [← e] at h3
    rw [h3, hb] at h2
    unfold sub'
    rw [Option.some.inj h2]
    exact e
  · intro e
    have hl : t.length = tl ys b := by
      have h1 := endL_le hb
      rw [e]
      unfold sub'
      rw [List.length_take]
      omega
    rw [hl]
    exact e
section S12
variable {la : Launch} {D : va_G} {cA : Nat → ClassId} {B0 pa : Nat} {B Q P : Nat → Nat} {ox : Nat} {kn : Int32} {F : Nat → TC}
set_option maxHeartbeats 4000000 in
theorem s5_endOfX (h : AH) (S : TS B Q h F) {i : Nat} (hi : i < 52) {ns : List Nat} (hN : TN (F i) ns) {p0 : Nat} (hp : ns.length ≤ p0) (hp2 : p0 < 2 ^ 20) : CT la D cA B0 pa yX5_endOf cX5_endOf 4 (some .int) (rmD 1 0 0) [.ref (B i), vI p0] h (RP (vI p0) h) := by
  refine CT_of (by decide +kernel) (Nat.le_of_ble_eq_true rfl) ?_
  intro p e s m args below meth c X E hr hlk hnm
  have dk : ∀ {pc : Nat} {q : Instr × Nat}, lkd DX5_endOf pc = some q → decode cX5_endOf pc = .ok q := lkd_ok DX5_endOf_ok
  have a2 := (S i hi).2.1
  rw [hN.len] at a2
  have hlen := (S i hi).1
  rw [hN.len] at hlen
  have hL := rmI_le i
  iterate 6 refine fst1_ok X (dk rfl) rfl ?_
  refine getf_ok X flX5_21 (dk rfl) a2 rfl ?_
  refine br_ok X (dk rfl) rfl (show ((9 : Nat) : Int) + 26 = ((35 : Nat) : Int) from rfl) (fun _ => ?_) (fun q => absurd (nI_le (by omega) (by omega)) q)
  refine fst1_ok X (dk rfl) rfl ?_
  exact reti_ok X hr hlk rfl (dk rfl) (⟨rfl, rfl⟩) (Nat.le_of_ble_eq_true rfl) (Nat.le_of_ble_eq_true rfl)
set_option maxHeartbeats 4000000 in
theorem s5_isLikeAtE (h : AH) (S : TS B Q h F) {i : Nat} (hi : i < 52) (hE : (F i).1 = []) {u p0 p2 : Nat} : CT la D cA B0 pa yX5_isLikeAt cX5_isLikeAt 7 (some .boolean) (rmD 1 0 0) [.ref (B i), vI p0, .ref (B u), vI p2] h (RP (.int (bI false)) h) := by
  refine CT_of (by decide +kernel) (Nat.le_of_ble_eq_true rfl) ?_
  intro p e s m args below meth c X E hr hlk hnm
  have dk : ∀ {pc : Nat} {q : Instr × Nat}, lkd DX5_isLikeAt pc = some q → decode cX5_isLikeAt pc = .ok q := lkd_ok DX5_isLikeAt_ok
  obtain ⟨a1, a2, xs, a3, a4, -⟩ := S i hi
  have hg := rmI_ge i
  have hL := rmI_le i
  iterate 5 refine fst1_ok X (dk rfl) rfl ?_
  refine br_ok X (dk rfl) rfl (show ((8 : Nat) : Int) + 63 = ((71 : Nat) : Int) from rfl) (fun q => absurd q (by decide)) (fun _ => ?_)
  iterate 2 refine fst1_ok X (dk rfl) rfl ?_
  refine getf_ok X flX5_15 (dk rfl) a2 rfl ?_
  refine alen7_ok X (dk rfl) a3 a4 ?_
  refine br_ok X (dk rfl) rfl (show ((18 : Nat) : Int) + 53 = ((71 : Nat) : Int) from rfl) (fun q => absurd q (by rw [nI_0']; exact nI_ge (by omega) (by omega))) (fun _ => ?_)
  iterate 4 refine fst1_ok X (dk rfl) rfl ?_
  refine callVR_ok (ci := 7) (T := TX5) (N := 3) (av := [.int (nI p0 + Int32.ofInt 0)]) (r := []) X E (s5_letterAt h S hi _) lkX5_letterAt mlX5_29 lmX5_letterAt lpX5_letterAt ⟨Nat.le_of_ble_eq_true rfl, Nat.le_of_ble_eq_true rfl⟩ ⟨Nat.le_of_ble_eq_true rfl, Nat.le_of_ble_eq_true rfl⟩ rfl ⟨_, (S i hi).2.1⟩ (Nat.le_of_ble_eq_true rfl) (dk rfl) ?_
  rintro _ rfl
  rw [hE, ltX_nil]
  iterate 3 refine fst1_ok X (dk rfl) rfl ?_
  refine br_ok X (dk rfl) rfl (show ((35 : Nat) : Int) + 16 = ((51 : Nat) : Int) from rfl) (fun _ => ?_) (fun q => absurd rfl q)
  refine fst1_ok X (dk rfl) rfl ?_
  exact reti_ok X hr hlk (bI_n false) (dk rfl) (⟨rfl, rfl⟩) (Nat.le_of_ble_eq_true rfl) (Nat.le_of_ble_eq_true rfl)
set_option maxHeartbeats 8000000 in
theorem s0_tellUntold (h : AH) (Y : LYO B Q) (S : TS B Q h F) {o f : Nat} (O : AnO B h o f) : CT la D cA B0 pa yX0_tellUntoldOfThemselves cX0_tellUntoldOfThemselves 2 none (rmD 2 0 0) [.ref o] h (TP B Q (upK F f (fun n => if (F (f + n)).1.length = 0 then (([nI n], false) : TC) else F (f + n)) 8) h) := by
  refine CT_of (by decide +kernel) (Nat.le_of_ble_eq_true rfl) ?_
  intro p e s m args below meth c X E hr hlk hnm
  have dk : ∀ {pc : Nat} {q : Instr × Nat}, lkd DX0_tellUntoldOfThemselves pc = some q → decode cX0_tellUntoldOfThemselves pc = .ok q := lkd_ok DX0_tellUntoldOfThemselves_ok
  obtain ⟨of, arr, o1, o2⟩ := id O
  have loop : ∀ (d k : Nat) (h1 : AH), d = 8 - k → k ≤ 8 → TS B Q h1 (upK F f (fun n => if (F (f + n)).1.length = 0 then (([nI n], false) : TC) else F (f + n)) k) → FrT B Q h h1 → ∀ l : List (Nat × Value), lsel l [1, 0] = [(1, vI k), (0, .ref o)] → WR p la e (rmD 2 0 0) s m args below meth c D cA B0 2 (TP B Q (upK F f (fun n => if (F (f + n)).1.length = 0 then (([nI n], false) : TC) else F (f + n)) 8) h) 2 l [] h1 0 0 := by
    intro d
    induction d with
    | zero =>
      intro k h1 hd hk S1 f1 l hl
      have hk2 : k = 8 := by omega
      subst hk2
      refine WS.sel [1, 0] hl ?_
      iterate 2 refine fst1_ok X (dk rfl) rfl ?_
      refine br_ok X (dk rfl) rfl (show ((5 : Nat) : Int) + 31 = ((36 : Nat) : Int) from rfl) (fun _ => ?_) (fun q => absurd (by rw [nI_8']; exact Int32.le_refl _) q)
      exact retv_ok X hr hlk (dk rfl) (⟨rfl, S1, f1⟩) (Nat.le_of_ble_eq_true rfl) (Nat.le_of_ble_eq_true rfl)
    | succ d ih =>
      intro k h1 hd hk S1 f1 l hl
      have p1 := f1.keep S o1 (by decide) (by decide)
      have p2 := f1.keep S o2 (by decide) (by decide)
      have eg : upK F f (fun n => if (F (f + n)).1.length = 0 then (([nI n], false) : TC) else F (f + n)) k (f + k) = F (f + k) := upK_out F f _ (by omega)
      have hlen := (S (f + k) (by omega)).1
      have hL := rmI_le (f + k)
      refine WS.sel [1, 0] hl ?_
      iterate 2 refine fst1_ok X (dk rfl) rfl ?_
      refine br_ok X (dk rfl) rfl (show ((5 : Nat) : Int) + 31 = ((36 : Nat) : Int) from rfl) (fun q => absurd q (by rw [nI_8']; exact nI_ge (by omega) (by omega))) (fun _ => ?_)
      refine fst1_ok X (dk rfl) rfl ?_
      refine getf_ok X flX0_11 (dk rfl) p1 rfl ?_
      refine fst1_ok X (dk rfl) rfl ?_
      refine aldr_ok X (Or.inl rfl) (dk rfl) p2 (by omega) (rgB_get B f (k := k) (by omega)) ?_
      refine callVR_ok (ci := 7) (T := TX5) (N := 3) (av := []) (r := []) X E (s5_length h1 S1 (i := f + k) (by omega)) lkX5_length mlX0_34 lmX5_length lpX5_length ⟨Nat.le_of_ble_eq_true rfl, Nat.le_of_ble_eq_true rfl⟩ ⟨Nat.le_of_ble_eq_true rfl, Nat.le_of_ble_eq_true rfl⟩ rfl ⟨_, (S1 (f + k) (by omega)).2.1⟩ (Nat.le_of_ble_eq_true rfl) (dk rfl) ?_
      rintro _ rfl
      rw [eg]
      have f3 : Value.int (nI k + Int32.ofInt 1) = vI (k + 1) := congrArg Value.int (by rw [nI_1', nI_add])
      have nxt : ∀ (h2 : AH), TS B Q h2 (upK F f (fun n => if (F (f + n)).1.length = 0 then (([nI n], false) : TC) else F (f + n)) (k + 1)) → FrT B Q h1 h2 → ∀ l : List (Nat × Value), lsel l [1, 0] = [(1, vI k), (0, .ref o)] → WR p la e (rmD 2 0 0) s m args below meth c D cA B0 2 (TP B Q (upK F f (fun n => if (F (f + n)).1.length = 0 then (([nI n], false) : TC) else F (f + n)) 8) h) 30 l [] h2 0 0 := by
        intro h2 S2 f2 l hl
        refine WS.sel [1, 0] hl ?_
        refine fst1_ok X (dk rfl) rfl ?_
        refine br_ok X (dk rfl) rfl (show ((33 : Nat) : Int) + (-31) = ((2 : Nat) : Int) from rfl) (fun _ => ?_) (fun q => absurd trivial q)
        refine WS.sel (l' := [(1, vI (k + 1)), (0, .ref o)]) [1, 0] (by rw [← f3]; rfl) ?_
        exact ih (k + 1) h2 (by omega) (by omega) S2 (f1.trans f2) _ rfl
      by_cases h0 : (F (f + k)).1.length = 0
      · rw [h0]
        refine br_ok X (dk rfl) rfl (show ((17 : Nat) : Int) + 13 = ((30 : Nat) : Int) from rfl) (fun q => absurd (show nI 0 = 0 by decide) q) (fun _ => ?_)
        refine fst1_ok X (dk rfl) rfl ?_
        refine getf_ok X flX0_11 (dk rfl) p1 rfl ?_
        refine fst1_ok X (dk rfl) rfl ?_
        refine aldr_ok X (Or.inl rfl) (dk rfl) p2 (by omega) (rgB_get B f (k := k) (by omega)) ?_
        refine fst1_ok X (dk rfl) rfl ?_
        refine callVT_ok (ci := 7) (T := TX5) (N := 3) (av := [vI k]) (r := []) X E (s5_becomeName h1 Y S1 (i := f + k) (by omega) (nI k)) lkX5_becomeName mlX0_20 lmX5_becomeName lpX5_becomeName ⟨Nat.le_of_ble_eq_true rfl, Nat.le_of_ble_eq_true rfl⟩ ⟨Nat.le_of_ble_eq_true rfl, Nat.le_of_ble_eq_true rfl⟩ rfl (S1 (f + k) (by omega)).2.1 (Nat.le_of_ble_eq_true rfl) (dk rfl) (fun h2 S2 f2 => ?_)
        have eG : (([nI k], false) : TC) = (fun n => if (F (f + n)).1.length = 0 then (([nI n], false) : TC) else F (f + n)) k := (if_pos h0).symm
        rw [eG, upK_up] at S2
        exact nxt h2 S2 f2 _ rfl
      · refine br_ok X (dk rfl) rfl (show ((17 : Nat) : Int) + 13 = ((30 : Nat) : Int) from rfl) (fun _ => ?_) (fun q => absurd (fun z => h0 (nI_inj (a := (F (f + k)).1.length) (b := 0) (by omega) (by omega) z)) q)
        have eG : F (f + k) = (fun n => if (F (f + n)).1.length = 0 then (([nI n], false) : TC) else F (f + n)) k := (if_neg h0).symm
        have S2 : TS B Q h1 (upK F f (fun n => if (F (f + n)).1.length = 0 then (([nI n], false) : TC) else F (f + n)) (k + 1)) := by
          rw [← upK_up, if_neg h0, ← eg, upF_same]
          exact S1
        exact nxt h1 S2 (FrT.rf h1) _ rfl
  iterate 2 refine fst1_ok X (dk rfl) rfl ?_
  exact loop 8 0 h rfl (Nat.zero_le _) (by rw [upK_0]; exact S) (FrT.rf h) _ rfl
/-- what a match leaves -/
def mtP (B Q : Nat → Nat) (F : Nat → TC) (f : Nat) (R : Option (List (List Nat))) (h : AH) (v : Option Value) (h' : AH) : Prop :=
  v = some (.int (bI R.isSome)) ∧ FrT B Q h h' ∧ ∃ G : Nat → TC, TS B Q h' (upK F f G 8) ∧ ∀ rows, R = some rows → ∀ n, n < 8 → G n = ((rows.getD n []).map nI, false)
set_option maxHeartbeats 32000000 in
theorem s0_becomeMatch (h : AH) (Y : LYO B Q) (S : TS B Q h F) {o f : Nat} (O : AnO B h o f) (hrm : ∀ n, n < 8 → rmI (f + n) = 16) {i1 : Nat} (h1i : i1 < 52) {one : List Nat} (hN : TN (F i1) one) (h1f : i1 < f ∨ f + 8 ≤ i1) {i2 : Nat} (h2i : i2 < 52) {onto : List Nat} (hM : TN (F i2) onto) (h2f : i2 < f ∨ f + 8 ≤ i2) (wt : TW onto) (lo : onto.length ≤ 16) : CT la D cA B0 pa yX0_becomeMatch cX0_becomeMatch 7 (some .boolean) (rmD 3 0 0) [.ref o, .ref (B i1), .ref (B i2)] h (mtP B Q F f (matchL one onto) h) := by
  refine CT_of (by decide +kernel) (Nat.le_of_ble_eq_true rfl) ?_
  intro p e s m args below meth c X E hr hlk hnm
  have dk : ∀ {pc : Nat} {q : Instr × Nat}, lkd DX0_becomeMatch pc = some q → decode cX0_becomeMatch pc = .ok q := lkd_ok DX0_becomeMatch_ok
  obtain ⟨of, arr, o1, o2⟩ := id O
  have hlen1 := (S i1 h1i).1
  rw [hN.len] at hlen1
  have hL1 := rmI_le i1
  have hlen2 := (S i2 h2i).1
  rw [hM.len] at hlen2
  have hL2 := rmI_le i2
  have out : ∀ (h1 : AH) (G : Nat → TC) (bb : Bool), TS B Q h1 (upK F f G 8) → FrT B Q h h1 → bb = (matchL one onto).isSome → (bb = true → ∃ told, TT told ∧ matchF onto one 0 (List.replicate 8 none) = some told ∧ ∀ n, n < 8 → G n = mtG told n) → ∀ l : List (Nat × Value), lsel l [4, 0] = [(4, .int (bI bb)), (0, .ref o)] → WR p la e (rmD 3 0 0) s m args below meth c D cA B0 7 (mtP B Q F f (matchL one onto) h) 154 l [] h1 0 0 := by
    intro h1 G bb S1 f1 hbb hG l hl
    refine WS.sel [4, 0] hl ?_
    refine fst1_ok X (dk rfl) rfl ?_
    refine callVT_ok (ci := 2) (T := TX0) (N := 1) (av := []) (r := []) X E (s0_tellUntold h1 Y S1 (O.keep S f1)) lkX0_tellUntoldOfThemselves mlX0_92 lmX0_tellUntoldOfThemselves lpX0_tellUntoldOfThemselves ⟨Nat.le_of_ble_eq_true rfl, Nat.le_of_ble_eq_true rfl⟩ ⟨Nat.le_of_ble_eq_true rfl, Nat.le_of_ble_eq_true rfl⟩ rfl (O.keep S f1).2.choose_spec.1 (Nat.le_of_ble_eq_true rfl) (dk rfl) (fun h2 S2 f2 => ?_)
    refine fst1_ok X (dk rfl) rfl ?_
    rw [hbb]
    refine reti_ok X hr hlk (bI_n _) (dk rfl) ⟨rfl, f1.trans f2, (fun n => if (G n).1.length = 0 then (([nI n], false) : TC) else G n), ?_, ?_⟩ (Nat.le_of_ble_eq_true rfl) (Nat.le_of_ble_eq_true rfl)
    · have e0 : upK (upK F f G 8) f (fun n => if (upK F f G 8 (f + n)).1.length = 0 then (([nI n], false) : TC) else upK F f G 8 (f + n)) 8 = upK F f (fun n => if (G n).1.length = 0 then (([nI n], false) : TC) else G n) 8 := by
        funext j
        by_cases hj : f ≤ j ∧ j < f + 8
        · obtain ⟨n, rfl⟩ : ∃ n, j = f + n := ⟨j - f, by omega⟩
          have hn : n < 8 := by omega
          rw [upK_in _ f _ hn, upK_in _ f _ hn, upK_in _ f _ hn]
        · rw [upK_out _ f _ (by omega), upK_out _ f _ (by omega), upK_out _ f _ (by omega)]
      rw [← e0]
      exact S2
    · intro rows hrows n hn
      obtain ⟨told, tt, hm, hg⟩ := hG (by rw [hbb, hrows]; rfl)
      have er : rows = restT told := by
        unfold matchL at hrows
        rw [hm] at hrows
        exact (Option.some.inj hrows).symm
      rw [er]
      unfold restT
      have hnt : n < told.length := by rw [tt.1]; exact hn
      rw [List.getD_eq_getElem?_getD, List.getElem?_map, List.getElem?_range hn]
      show (if (G n).1.length = 0 then (([nI n], false) : TC) else G n) = (((told.getD n none).getD [n]).map nI, false)
      rw [hg n hn]
      unfold mtG
      cases e : told.getD n none with
      | none => rfl
      | some t =>
        have htw := (tt.2 t (by rw [← e, List.getD_eq_getElem?_getD, List.getElem?_eq_getElem hnt]; exact List.getElem_mem hnt)).1.pos
        rw [if_neg (by show ¬ (t.map nI).length = 0; rw [List.length_map]; omega)]
        rfl
  have bad : ∀ (h1 : AH) (G : Nat → TC) (q b : Nat) (x5 : Int32), TS B Q h1 (upK F f G 8) → FrT B Q h h1 → matchF onto one 0 (List.replicate 8 none) = none → ∀ l : List (Nat × Value), lsel l [5, 4, 3, 2, 1, 0] = [(5, .int x5), (4, .int (bI false)), (3, vI b), (2, .ref (B i2)), (1, .ref (B i1)), (0, .ref o)] → WR p la e (rmD 3 0 0) s m args below meth c D cA B0 7 (mtP B Q F f (matchL one onto) h) 148 l [] h1 0 0 := by
    intro h1 G q b x5 S1 f1 hm l hl
    have hR : matchL one onto = none := by unfold matchL; rw [hm]; rfl
    refine WS.sel [5, 4, 3, 2, 1, 0] hl ?_
    refine fst1_ok X (dk rfl) rfl ?_
    refine br_ok X (dk rfl) rfl (show ((151 : Nat) : Int) + (-107) = ((44 : Nat) : Int) from rfl) (fun _ => ?_) (fun q => absurd trivial q)
    iterate 2 refine fst1_ok X (dk rfl) rfl ?_
    refine callVR_ok (ci := 7) (T := TX5) (N := 3) (av := []) (r := [.int (x5 + Int32.ofInt 1)]) X E (s5_length h1 S1 h1i) lkX5_length mlX0_34 lmX5_length lpX5_length ⟨Nat.le_of_ble_eq_true rfl, Nat.le_of_ble_eq_true rfl⟩ ⟨Nat.le_of_ble_eq_true rfl, Nat.le_of_ble_eq_true rfl⟩ rfl ⟨_, (S1 i1 h1i).2.1⟩ (Nat.le_of_ble_eq_true rfl) (dk rfl) ?_
    rintro _ rfl
    refine br_ok X (dk rfl) rfl (show ((50 : Nat) : Int) + 104 = ((154 : Nat) : Int) from rfl) (fun c1 => ?_) (fun c1 => ?_)
    · exact out h1 G false S1 f1 (by rw [hR]; rfl) (fun z => by cases z) _ rfl
    · refine fst1_ok X (dk rfl) rfl ?_
      refine br_ok X (dk rfl) rfl (show ((55 : Nat) : Int) + 99 = ((154 : Nat) : Int) from rfl) (fun _ => ?_) (fun q => absurd bI_f' q)
      exact out h1 G false S1 f1 (by rw [hR]; rfl) (fun z => by cases z) _ rfl
  have loop : ∀ (d q b : Nat) (told : List (Option (List Nat))) (h1 : AH), d = one.length - q → q ≤ one.length → b ≤ onto.length → TT told → TS B Q h1 (upK F f (mtG told) 8) → FrT B Q h h1 → matchF onto (one.drop q) b told = matchF onto one 0 (List.replicate 8 none) → ∀ l : List (Nat × Value), lsel l [5, 4, 3, 2, 1, 0] = [(5, vI q), (4, .int (bI true)), (3, vI b), (2, .ref (B i2)), (1, .ref (B i1)), (0, .ref o)] → WR p la e (rmD 3 0 0) s m args below meth c D cA B0 7 (mtP B Q F f (matchL one onto) h) 44 l [] h1 0 0 := by
    intro d
    induction d with
    | zero =>
      intro q b told h1 hd hq hb tt S1 f1 eU l hl
      have hq2 : q = one.length := by omega
      rw [hq2, List.drop_length] at eU
      have e1 : upK F f (mtG told) 8 i1 = F i1 := upK_out F f _ h1f
      refine WS.sel [5, 4, 3, 2, 1, 0] hl ?_
      iterate 2 refine fst1_ok X (dk rfl) rfl ?_
      refine callVR_ok (ci := 7) (T := TX5) (N := 3) (av := []) (r := [vI q]) X E (s5_length h1 S1 h1i) lkX5_length mlX0_34 lmX5_length lpX5_length ⟨Nat.le_of_ble_eq_true rfl, Nat.le_of_ble_eq_true rfl⟩ ⟨Nat.le_of_ble_eq_true rfl, Nat.le_of_ble_eq_true rfl⟩ rfl ⟨_, (S1 i1 h1i).2.1⟩ (Nat.le_of_ble_eq_true rfl) (dk rfl) ?_
      rintro _ rfl
      rw [e1, hN.len]
      refine br_ok X (dk rfl) rfl (show ((50 : Nat) : Int) + 104 = ((154 : Nat) : Int) from rfl) (fun _ => ?_) (fun q => absurd (by rw [hq2]; exact Int32.le_refl _) q)
      exact out h1 _ true S1 f1 (by unfold matchL; rw [← eU]; rfl) (fun _ => ⟨told, tt, eU.symm, fun n hn => rfl⟩) _ rfl
    | succ d ih =>
      intro q b told h1 hd hq hb tt S1 f1 eU l hl
      obtain ⟨y, hy⟩ : ∃ y, one[q]? = some y := ⟨_, List.getElem?_eq_getElem (by omega)⟩
      have hok := hN.2 y (List.mem_of_getElem? hy)
      have hyx := hok.lt
      have e1 : upK F f (mtG told) 8 i1 = F i1 := upK_out F f _ h1f
      have e2 : upK F f (mtG told) 8 i2 = F i2 := upK_out F f _ h2f
      have hN1 : TN (upK F f (mtG told) 8 i1) one := by rw [e1]; exact hN
      have hM1 : TN (upK F f (mtG told) 8 i2) onto := by rw [e2]; exact hM
      have p1 := f1.keep S o1 (by decide) (by decide)
      have p2 := f1.keep S o2 (by decide) (by decide)
      rw [drop_cons hy] at eU
      refine WS.sel [5, 4, 3, 2, 1, 0] hl ?_
      iterate 2 refine fst1_ok X (dk rfl) rfl ?_
      refine callVR_ok (ci := 7) (T := TX5) (N := 3) (av := []) (r := [vI q]) X E (s5_length h1 S1 h1i) lkX5_length mlX0_34 lmX5_length lpX5_length ⟨Nat.le_of_ble_eq_true rfl, Nat.le_of_ble_eq_true rfl⟩ ⟨Nat.le_of_ble_eq_true rfl, Nat.le_of_ble_eq_true rfl⟩ rfl ⟨_, (S1 i1 h1i).2.1⟩ (Nat.le_of_ble_eq_true rfl) (dk rfl) ?_
      rintro _ rfl
      rw [e1, hN.len]
      refine br_ok X (dk rfl) rfl (show ((50 : Nat) : Int) + 104 = ((154 : Nat) : Int) from rfl) (fun q => absurd q (nI_ge (by omega) (by omega))) (fun _ => ?_)
      refine fst1_ok X (dk rfl) rfl ?_
      refine br_ok X (dk rfl) rfl (show ((55 : Nat) : Int) + 99 = ((154 : Nat) : Int) from rfl) (fun q => absurd q bI_t) (fun _ => ?_)
      iterate 2 refine fst1_ok X (dk rfl) rfl ?_
      refine callVR_ok (ci := 7) (T := TX5) (N := 3) (av := [vI q]) (r := []) X E (s5_letterAt h1 S1 h1i (nI q)) lkX5_letterAt mlX0_38 lmX5_letterAt lpX5_letterAt ⟨Nat.le_of_ble_eq_true rfl, Nat.le_of_ble_eq_true rfl⟩ ⟨Nat.le_of_ble_eq_true rfl, Nat.le_of_ble_eq_true rfl⟩ rfl ⟨_, (S1 i1 h1i).2.1⟩ (Nat.le_of_ble_eq_true rfl) (dk rfl) ?_
      rintro _ rfl
      rw [hN1.lt hy (by omega)]
      iterate 2 refine fst1_ok X (dk rfl) rfl ?_
      refine callNR_ok (av := [vI y]) (r := []) X E (s6_isName h1 (x := y) (by omega)) lkX6_isName mnX0_23 lsX6_isName ⟨Nat.le_of_ble_eq_true rfl, Nat.le_of_ble_eq_true rfl⟩ ⟨Nat.le_of_ble_eq_true rfl, Nat.le_of_ble_eq_true rfl⟩ (Nat.le_of_ble_eq_true rfl) (dk rfl) ?_
      rintro _ rfl
      have f3 : Value.int (nI q + Int32.ofInt 1) = vI (q + 1) := congrArg Value.int (by rw [nI_1', nI_add])
      have fb : Value.int (nI b + Int32.ofInt 1) = vI (b + 1) := congrArg Value.int (by rw [nI_1', nI_add])
      have good : ∀ (b2 : Nat) (told2 : List (Option (List Nat))) (h2 : AH), b2 ≤ onto.length → TT told2 → TS B Q h2 (upK F f (mtG told2) 8) → FrT B Q h h2 → matchF onto (one.drop (q + 1)) b2 told2 = matchF onto one 0 (List.replicate 8 none) → ∀ l : List (Nat × Value), lsel l [5, 4, 3, 2, 1, 0] = [(5, vI q), (4, .int (bI true)), (3, vI b2), (2, .ref (B i2)), (1, .ref (B i1)), (0, .ref o)] → WR p la e (rmD 3 0 0) s m args below meth c D cA B0 7 (mtP B Q F f (matchL one onto) h) 148 l [] h2 0 0 := by
        intro b2 told2 h2 hb2 tt2 S2 f2 e2 l hl
        refine WS.sel [5, 4, 3, 2, 1, 0] hl ?_
        refine fst1_ok X (dk rfl) rfl ?_
        refine br_ok X (dk rfl) rfl (show ((151 : Nat) : Int) + (-107) = ((44 : Nat) : Int) from rfl) (fun _ => ?_) (fun q => absurd trivial q)
        refine WS.sel (l' := [(5, vI (q + 1)), (4, .int (bI true)), (3, vI b2), (2, .ref (B i2)), (1, .ref (B i1)), (0, .ref o)]) [5, 4, 3, 2, 1, 0] (by rw [← f3]; rfl) ?_
        exact ih (q + 1) b2 told2 h2 (by omega) (by omega) hb2 tt2 S2 f2 e2 _ rfl
      by_cases h8 : y < 8
      · rw [decide_eq_true h8]
        refine br_ok X (dk rfl) rfl (show ((71 : Nat) : Int) + 57 = ((128 : Nat) : Int) from rfl) (fun q => absurd q bI_t) (fun _ => ?_)
        refine fst1_ok X (dk rfl) rfl ?_
        refine getf_ok X flX0_11 (dk rfl) p1 rfl ?_
        refine fst1_ok X (dk rfl) rfl ?_
        refine aldr_ok X (Or.inl rfl) (dk rfl) p2 (by omega) (rgB_get B f (k := y) h8) ?_
        have eG : upK F f (mtG told) 8 (f + y) = mtG told y := upK_in F f _ h8
        have hyt : y < told.length := by rw [tt.1]; exact h8
        refine callVR_ok (ci := 7) (T := TX5) (N := 3) (av := []) (r := []) X E (s5_length h1 S1 (i := f + y) (by omega)) lkX5_length mlX0_34 lmX5_length lpX5_length ⟨Nat.le_of_ble_eq_true rfl, Nat.le_of_ble_eq_true rfl⟩ ⟨Nat.le_of_ble_eq_true rfl, Nat.le_of_ble_eq_true rfl⟩ rfl ⟨_, (S1 (f + y) (by omega)).2.1⟩ (Nat.le_of_ble_eq_true rfl) (dk rfl) ?_
        rintro _ rfl
        rw [eG]
        cases et : told.getD y none with
        | none =>
          have eg : mtG told y = ([], false) := by unfold mtG; rw [et]
          rw [eg]
          refine br_ok X (dk rfl) rfl (show ((84 : Nat) : Int) + 20 = ((104 : Nat) : Int) from rfl) (fun q => absurd (show nI 0 = 0 by decide) q) (fun _ => ?_)
          refine fst1_ok X (dk rfl) rfl ?_
          refine getf_ok X flX0_11 (dk rfl) p1 rfl ?_
          refine fst1_ok X (dk rfl) rfl ?_
          refine aldr_ok X (Or.inl rfl) (dk rfl) p2 (by omega) (rgB_get B f (k := y) h8) ?_
          iterate 4 refine fst1_ok X (dk rfl) rfl ?_
          rcases Nat.lt_or_ge b onto.length with hbl | hbl
          · obtain ⟨k1, k2, k3, k4, k5⟩ := sub_ok wt lo hbl
            rw [mF_no (by omega) (by omega) et] at eU
            refine callVR_ok (ci := 7) (T := TX5) (N := 3) (av := [vI b]) (r := [vI b, .ref (B i2), .ref (B (f + y))]) X E (s5_endOf h1 S1 h2i hM1 k1) lkX5_endOf mlX0_81 lmX5_endOf lpX5_endOf ⟨Nat.le_of_ble_eq_true rfl, Nat.le_of_ble_eq_true rfl⟩ ⟨Nat.le_of_ble_eq_true rfl, Nat.le_of_ble_eq_true rfl⟩ rfl ⟨_, (S1 i2 h2i).2.1⟩ (Nat.le_of_ble_eq_true rfl) (dk rfl) ?_
            rintro _ rfl
            refine callVT_ok (ci := 7) (T := TX5) (N := 3) (av := [.ref (B i2), vI b, vI (b + tl onto b)]) (r := []) X E (s5_addRow h1 Y S1 (i := f + y) (by omega) (j := i2) h2i (by omega) (a := b) (b := b + tl onto b) (by omega) (by rw [e2, hM.len]; omega)) lkX5_addRow mlX0_84 lmX5_addRow lpX5_addRow ⟨Nat.le_of_ble_eq_true rfl, Nat.le_of_ble_eq_true rfl⟩ ⟨Nat.le_of_ble_eq_true rfl, Nat.le_of_ble_eq_true rfl⟩ rfl (S1 (f + y) (by omega)).2.1 (Nat.le_of_ble_eq_true rfl) (dk rfl) (fun h2 S2 f2 => ?_)
            have ea : addR (rmI (f + y)) (upK F f (mtG told) 8 (f + y)) ((((upK F f (mtG told) 8 i2).1).drop b).take (b + tl onto b - b)) = ((sub' onto b).map nI, false) := by
              rw [eG, eg, hM1.1, Nat.add_sub_cancel_left, ← List.map_drop, ← List.map_take, hrm y h8]
              exact addR_short (by have := k5; unfold sub' at this; rw [this]; omega)
            rw [ea, upK_one h8, show upK F f (fun n => if n = y then ((sub' onto b).map nI, false) else mtG told n) 8 = upK F f (mtG (told.set y (some (sub' onto b)))) 8 from upK_congr (fun n _ => (mtG_set hyt _ n).symm)] at S2
            have tt2 := tt.set (x := y) ⟨k4, by rw [k5]; omega⟩
            have q1 := (f1.trans f2).keep S o1 (by decide) (by decide)
            have q2 := (f1.trans f2).keep S o2 (by decide) (by decide)
            refine fst1_ok X (dk rfl) rfl ?_
            refine getf_ok X flX0_11 (dk rfl) q1 rfl ?_
            refine fst1_ok X (dk rfl) rfl ?_
            refine aldr_ok X (Or.inl rfl) (dk rfl) q2 (by omega) (rgB_get B f (k := y) h8) ?_
            iterate 3 refine fst1_ok X (dk rfl) rfl ?_
            have tG : TN (upK F f (mtG (told.set y (some (sub' onto b)))) 8 (f + y)) (sub' onto b) := by rw [upK_in F f _ h8, mtG_set hyt, if_pos rfl]; exact ⟨rfl, k4.2⟩
            have hM2 : TN (upK F f (mtG (told.set y (some (sub' onto b)))) 8 i2) onto := by rw [upK_out F f _ h2f]; exact hM
            refine callVR_ok (ci := 7) (T := TX5) (N := 3) (av := [vI 0, .ref (B i2), vI b]) (r := []) X E (s5_isLikeAt h2 S2 (i := f + y) (by omega) tG h2i hM2 (p0 := 0) (p2 := b) (by omega) (by rw [List.drop_zero]; exact k4.1)) lkX5_isLikeAt mlX0_88 lmX5_isLikeAt lpX5_isLikeAt ⟨Nat.le_of_ble_eq_true rfl, Nat.le_of_ble_eq_true rfl⟩ ⟨Nat.le_of_ble_eq_true rfl, Nat.le_of_ble_eq_true rfl⟩ rfl ⟨_, (S2 (f + y) (by omega)).2.1⟩ (Nat.le_of_ble_eq_true rfl) (dk rfl) ?_
            rintro _ rfl
            rw [decide_eq_true ((TW_take k4 k1).mpr rfl)]
            iterate 3 refine fst1_ok X (dk rfl) rfl ?_
            refine callVR_ok (ci := 7) (T := TX5) (N := 3) (av := [vI b]) (r := []) X E (s5_endOf h2 S2 h2i hM2 k1) lkX5_endOf mlX0_81 lmX5_endOf lpX5_endOf ⟨Nat.le_of_ble_eq_true rfl, Nat.le_of_ble_eq_true rfl⟩ ⟨Nat.le_of_ble_eq_true rfl, Nat.le_of_ble_eq_true rfl⟩ rfl ⟨_, (S2 i2 h2i).2.1⟩ (Nat.le_of_ble_eq_true rfl) (dk rfl) ?_
            rintro _ rfl
            refine fst1_ok X (dk rfl) rfl ?_
            refine br_ok X (dk rfl) rfl (show ((125 : Nat) : Int) + 23 = ((148 : Nat) : Int) from rfl) (fun _ => ?_) (fun q => absurd trivial q)
            exact good _ _ h2 (by omega) tt2 S2 (f1.trans f2) eU _ rfl
          · have hbe : b = onto.length := by omega
            rw [mF_out hbl] at eU
            refine callVR_ok (ci := 7) (T := TX5) (N := 3) (av := [vI b]) (r := [vI b, .ref (B i2), .ref (B (f + y))]) X E (s5_endOfX h1 S1 h2i hM1 hbl (by omega)) lkX5_endOf mlX0_81 lmX5_endOf lpX5_endOf ⟨Nat.le_of_ble_eq_true rfl, Nat.le_of_ble_eq_true rfl⟩ ⟨Nat.le_of_ble_eq_true rfl, Nat.le_of_ble_eq_true rfl⟩ rfl ⟨_, (S1 i2 h2i).2.1⟩ (Nat.le_of_ble_eq_true rfl) (dk rfl) ?_
            rintro _ rfl
            refine callVT_ok (ci := 7) (T := TX5) (N := 3) (av := [.ref (B i2), vI b, vI b]) (r := []) X E (s5_addRow h1 Y S1 (i := f + y) (by omega) (j := i2) h2i (by omega) (a := b) (b := b) (Nat.le_refl _) (by rw [e2, hM.len]; omega)) lkX5_addRow mlX0_84 lmX5_addRow lpX5_addRow ⟨Nat.le_of_ble_eq_true rfl, Nat.le_of_ble_eq_true rfl⟩ ⟨Nat.le_of_ble_eq_true rfl, Nat.le_of_ble_eq_true rfl⟩ rfl (S1 (f + y) (by omega)).2.1 (Nat.le_of_ble_eq_true rfl) (dk rfl) (fun h2 S2 f2 => ?_)
            rw [Nat.sub_self, List.take_zero, show addR (rmI (f + y)) (upK F f (mtG told) 8 (f + y)) [] = upK F f (mtG told) 8 (f + y) from rfl, upF_same] at S2
            have q1 := (f1.trans f2).keep S o1 (by decide) (by decide)
            have q2 := (f1.trans f2).keep S o2 (by decide) (by decide)
            refine fst1_ok X (dk rfl) rfl ?_
            refine getf_ok X flX0_11 (dk rfl) q1 rfl ?_
            refine fst1_ok X (dk rfl) rfl ?_
            refine aldr_ok X (Or.inl rfl) (dk rfl) q2 (by omega) (rgB_get B f (k := y) h8) ?_
            iterate 3 refine fst1_ok X (dk rfl) rfl ?_
            refine callVR_ok (ci := 7) (T := TX5) (N := 3) (av := [vI 0, .ref (B i2), vI b]) (r := []) X E (s5_isLikeAtE h2 S2 (i := f + y) (by omega) (by rw [eG, eg])) lkX5_isLikeAt mlX0_88 lmX5_isLikeAt lpX5_isLikeAt ⟨Nat.le_of_ble_eq_true rfl, Nat.le_of_ble_eq_true rfl⟩ ⟨Nat.le_of_ble_eq_true rfl, Nat.le_of_ble_eq_true rfl⟩ rfl ⟨_, (S2 (f + y) (by omega)).2.1⟩ (Nat.le_of_ble_eq_true rfl) (dk rfl) ?_
            rintro _ rfl
            iterate 3 refine fst1_ok X (dk rfl) rfl ?_
            refine callVR_ok (ci := 7) (T := TX5) (N := 3) (av := [vI b]) (r := []) X E (s5_endOfX h2 S2 h2i hM1 hbl (by omega)) lkX5_endOf mlX0_81 lmX5_endOf lpX5_endOf ⟨Nat.le_of_ble_eq_true rfl, Nat.le_of_ble_eq_true rfl⟩ ⟨Nat.le_of_ble_eq_true rfl, Nat.le_of_ble_eq_true rfl⟩ rfl ⟨_, (S2 i2 h2i).2.1⟩ (Nat.le_of_ble_eq_true rfl) (dk rfl) ?_
            rintro _ rfl
            refine fst1_ok X (dk rfl) rfl ?_
            refine br_ok X (dk rfl) rfl (show ((125 : Nat) : Int) + 23 = ((148 : Nat) : Int) from rfl) (fun _ => ?_) (fun q => absurd trivial q)
            exact bad h2 _ q b _ S2 (f1.trans f2) eU.symm _ rfl
        | some t =>
          obtain ⟨w1, w2⟩ := tt.2 t (by rw [← et, List.getD_eq_getElem?_getD, List.getElem?_eq_getElem hyt]; exact List.getElem_mem hyt)
          have eg : mtG told y = (t.map nI, false) := by unfold mtG; rw [et]
          have wp := w1.pos
          rw [eg, show ((t.map nI, false) : TC).1.length = t.length from List.length_map _]
          refine br_ok X (dk rfl) rfl (show ((84 : Nat) : Int) + 20 = ((104 : Nat) : Int) from rfl) (fun _ => ?_) (fun q => absurd (fun z => by have := nI_inj (a := t.length) (b := 0) (by omega) (by omega) z; omega) q)
          refine fst1_ok X (dk rfl) rfl ?_
          refine getf_ok X flX0_11 (dk rfl) p1 rfl ?_
          refine fst1_ok X (dk rfl) rfl ?_
          refine aldr_ok X (Or.inl rfl) (dk rfl) p2 (by omega) (rgB_get B f (k := y) h8) ?_
          iterate 3 refine fst1_ok X (dk rfl) rfl ?_
          have tG : TN (upK F f (mtG told) 8 (f + y)) t := by rw [eG, eg]; exact ⟨rfl, w1.2⟩
          refine callVR_ok (ci := 7) (T := TX5) (N := 3) (av := [vI 0, .ref (B i2), vI b]) (r := []) X E (s5_isLikeAt h1 S1 (i := f + y) (by omega) tG h2i hM1 (p0 := 0) (p2 := b) (by omega) (by rw [List.drop_zero]; exact w1.1)) lkX5_isLikeAt mlX0_88 lmX5_isLikeAt lpX5_isLikeAt ⟨Nat.le_of_ble_eq_true rfl, Nat.le_of_ble_eq_true rfl⟩ ⟨Nat.le_of_ble_eq_true rfl, Nat.le_of_ble_eq_true rfl⟩ rfl ⟨_, (S1 (f + y) (by omega)).2.1⟩ (Nat.le_of_ble_eq_true rfl) (dk rfl) ?_
          rintro _ rfl
          iterate 3 refine fst1_ok X (dk rfl) rfl ?_
          rcases Nat.lt_or_ge b onto.length with hbl | hbl
          · obtain ⟨k1, k2, k3, k4, k5⟩ := sub_ok wt lo hbl
            rw [mF_so (by omega) (by omega) et] at eU
            refine callVR_ok (ci := 7) (T := TX5) (N := 3) (av := [vI b]) (r := []) X E (s5_endOf h1 S1 h2i hM1 k1) lkX5_endOf mlX0_81 lmX5_endOf lpX5_endOf ⟨Nat.le_of_ble_eq_true rfl, Nat.le_of_ble_eq_true rfl⟩ ⟨Nat.le_of_ble_eq_true rfl, Nat.le_of_ble_eq_true rfl⟩ rfl ⟨_, (S1 i2 h2i).2.1⟩ (Nat.le_of_ble_eq_true rfl) (dk rfl) ?_
            rintro _ rfl
            refine fst1_ok X (dk rfl) rfl ?_
            refine br_ok X (dk rfl) rfl (show ((125 : Nat) : Int) + 23 = ((148 : Nat) : Int) from rfl) (fun _ => ?_) (fun q => absurd trivial q)
            by_cases htb : t = sub' onto b
            · rw [decide_eq_true ((TW_take w1 k1).mpr htb)]
              rw [if_pos htb] at eU
              have S2 : TS B Q h1 (upK F f (mtG (told.set y (some (sub' onto b)))) 8) := by
                rw [show upK F f (mtG (told.set y (some (sub' onto b)))) 8 = upK F f (mtG told) 8 from upK_congr (fun n _ => by
                  rw [mtG_set hyt]
                  by_cases en : n = y
                  · rw [if_pos en, en, eg, htb]
                  · rw [if_neg en])]
                exact S1
              exact good _ _ h1 (by omega) (tt.set ⟨k4, by rw [k5]; omega⟩) S2 f1 eU _ rfl
            · rw [decide_eq_false (fun z => htb ((TW_take w1 k1).mp z))]
              rw [if_neg htb] at eU
              exact bad h1 _ q (b + tl onto b) _ S1 f1 eU.symm _ rfl
          · rw [mF_out hbl] at eU
            rw [decide_eq_false (fun z => by
              rw [List.drop_zero, List.take_length, List.drop_eq_nil_of_le hbl, List.take_nil] at z
              rw [z] at wp
              exact absurd wp (Nat.lt_irrefl 0))]
            refine callVR_ok (ci := 7) (T := TX5) (N := 3) (av := [vI b]) (r := []) X E (s5_endOfX h1 S1 h2i hM1 hbl (by omega)) lkX5_endOf mlX0_81 lmX5_endOf lpX5_endOf ⟨Nat.le_of_ble_eq_true rfl, Nat.le_of_ble_eq_true rfl⟩ ⟨Nat.le_of_ble_eq_true rfl, Nat.le_of_ble_eq_true rfl⟩ rfl ⟨_, (S1 i2 h2i).2.1⟩ (Nat.le_of_ble_eq_true rfl) (dk rfl) ?_
            rintro _ rfl
            refine fst1_ok X (dk rfl) rfl ?_
            refine br_ok X (dk rfl) rfl (show ((125 : Nat) : Int) + 23 = ((148 : Nat) : Int) from rfl) (fun _ => ?_) (fun q => absurd trivial q)
            exact bad h1 _ q b _ S1 f1 eU.symm _ rfl
      · rw [decide_eq_false h8]
        have h10 : 10 ≤ y := by rcases hok with z | z <;> omega
        refine br_ok X (dk rfl) rfl (show ((71 : Nat) : Int) + 57 = ((128 : Nat) : Int) from rfl) (fun _ => ?_) (fun q => absurd bI_f' q)
        iterate 3 refine fst1_ok X (dk rfl) rfl ?_
        refine callVR_ok (ci := 7) (T := TX5) (N := 3) (av := [vI b]) (r := [vI y]) X E (s5_letterAt h1 S1 h2i (nI b)) lkX5_letterAt mlX0_38 lmX5_letterAt lpX5_letterAt ⟨Nat.le_of_ble_eq_true rfl, Nat.le_of_ble_eq_true rfl⟩ ⟨Nat.le_of_ble_eq_true rfl, Nat.le_of_ble_eq_true rfl⟩ rfl ⟨_, (S1 i2 h2i).2.1⟩ (Nat.le_of_ble_eq_true rfl) (dk rfl) ?_
        rintro _ rfl
        rcases Nat.lt_or_ge b onto.length with hbl | hbl
        · obtain ⟨z, hz⟩ : ∃ z, onto[b]? = some z := ⟨_, List.getElem?_eq_getElem hbl⟩
          have hzx := (hM.2 z (List.mem_of_getElem? hz)).lt
          rw [hM1.lt hz (by omega)]
          rw [mF_hd (by omega) h10, hz] at eU
          by_cases hyz : z = y
          · rw [if_pos (by rw [hyz])] at eU
            refine br_ok X (dk rfl) rfl (show ((135 : Nat) : Int) + 7 = ((142 : Nat) : Int) from rfl) (fun q => absurd (by rw [hyz]) q) (fun _ => ?_)
            refine fst1_ok X (dk rfl) rfl ?_
            refine br_ok X (dk rfl) rfl (show ((139 : Nat) : Int) + 4 = ((143 : Nat) : Int) from rfl) (fun _ => ?_) (fun q => absurd trivial q)
            iterate 2 refine fst1_ok X (dk rfl) rfl ?_
            refine WS.sel (l' := [(5, vI q), (4, .int (bI true)), (3, vI (b + 1)), (2, .ref (B i2)), (1, .ref (B i1)), (0, .ref o)]) [5, 4, 3, 2, 1, 0] (by rw [← fb]; rfl) ?_
            exact good (b + 1) told h1 (by omega) tt S1 f1 eU _ rfl
          · rw [if_neg (fun z => hyz (Option.some.inj z))] at eU
            refine br_ok X (dk rfl) rfl (show ((135 : Nat) : Int) + 7 = ((142 : Nat) : Int) from rfl) (fun _ => ?_) (fun q => absurd (fun z => hyz (nI_inj (by omega) (by omega) z).symm) q)
            iterate 3 refine fst1_ok X (dk rfl) rfl ?_
            refine WS.sel (l' := [(5, vI q), (4, .int (bI false)), (3, vI (b + 1)), (2, .ref (B i2)), (1, .ref (B i1)), (0, .ref o)]) [5, 4, 3, 2, 1, 0] (by rw [← fb]; rfl) ?_
            exact bad h1 _ q (b + 1) _ S1 f1 eU.symm _ rfl
        · rw [hM1.out hbl (by omega)]
          rw [mF_out hbl] at eU
          refine br_ok X (dk rfl) rfl (show ((135 : Nat) : Int) + 7 = ((142 : Nat) : Int) from rfl) (fun _ => ?_) (fun q => absurd (nI_m9 (by omega)) q)
          iterate 3 refine fst1_ok X (dk rfl) rfl ?_
          refine WS.sel (l' := [(5, vI q), (4, .int (bI false)), (3, vI (b + 1)), (2, .ref (B i2)), (1, .ref (B i1)), (0, .ref o)]) [5, 4, 3, 2, 1, 0] (by rw [← fb]; rfl) ?_
          exact bad h1 _ q (b + 1) _ S1 f1 eU.symm _ rfl
  have first : ∀ (d k : Nat) (h1 : AH), d = 8 - k → k ≤ 8 → TS B Q h1 (upK F f (fun _ => (([], false) : TC)) k) → FrT B Q h h1 → ∀ l : List (Nat × Value), lsel l [5, 4, 3, 2, 1, 0] = [(5, vI k), (4, vI 8), (3, .ref arr), (2, .ref (B i2)), (1, .ref (B i1)), (0, .ref o)] → WR p la e (rmD 3 0 0) s m args below meth c D cA B0 7 (mtP B Q F f (matchL one onto) h) 12 l [] h1 0 0 := by
    intro d
    induction d with
    | zero =>
      intro k h1 hd hk S1 f1 l hl
      have hk2 : k = 8 := by omega
      subst hk2
      refine WS.sel [5, 4, 3, 2, 1, 0] hl ?_
      iterate 2 refine fst1_ok X (dk rfl) rfl ?_
      refine br_ok X (dk rfl) rfl (show ((16 : Nat) : Int) + 20 = ((36 : Nat) : Int) from rfl) (fun _ => ?_) (fun q => absurd (Int32.le_refl _) q)
      iterate 6 refine fst1_ok X (dk rfl) rfl ?_
      have S2 : TS B Q h1 (upK F f (mtG (List.replicate 8 none)) 8) := by
        rw [show upK F f (mtG (List.replicate 8 none)) 8 = upK F f (fun _ => (([], false) : TC)) 8 from upK_congr (fun n _ => mtG_none n)]
        exact S1
      exact loop _ 0 0 (List.replicate 8 none) h1 rfl (Nat.zero_le _) (Nat.zero_le _) ⟨rfl, fun r hr => by cases List.eq_of_mem_replicate hr⟩ S2 f1 (by rw [List.drop_zero]) _ rfl
    | succ d ih =>
      intro k h1 hd hk S1 f1 l hl
      have p2 := f1.keep S o2 (by decide) (by decide)
      refine WS.sel [5, 4, 3, 2, 1, 0] hl ?_
      iterate 2 refine fst1_ok X (dk rfl) rfl ?_
      refine br_ok X (dk rfl) rfl (show ((16 : Nat) : Int) + 20 = ((36 : Nat) : Int) from rfl) (fun q => absurd q (nI_ge (a := k) (b := 8) (by omega) (by omega))) (fun _ => ?_)
      iterate 2 refine fst1_ok X (dk rfl) rfl ?_
      refine aldr_ok X (Or.inl rfl) (dk rfl) p2 (by omega) (rgB_get B f (k := k) (by omega)) ?_
      iterate 2 refine fst1_ok X (dk rfl) rfl ?_
      refine callVT_ok (ci := 7) (T := TX5) (N := 3) (av := []) (r := []) X E (s5_empty h1 Y S1 (i := f + k) (by omega)) lkX5_empty mlX0_57 lmX5_empty lpX5_empty ⟨Nat.le_of_ble_eq_true rfl, Nat.le_of_ble_eq_true rfl⟩ ⟨Nat.le_of_ble_eq_true rfl, Nat.le_of_ble_eq_true rfl⟩ rfl (S1 (f + k) (by omega)).2.1 (Nat.le_of_ble_eq_true rfl) (dk rfl) (fun h2 S2 f2 => ?_)
      rw [show (([], false) : TC) = (fun _ => (([], false) : TC)) k from rfl, upK_up] at S2
      refine fst1_ok X (dk rfl) rfl ?_
      refine br_ok X (dk rfl) rfl (show ((33 : Nat) : Int) + (-21) = ((12 : Nat) : Int) from rfl) (fun _ => ?_) (fun q => absurd trivial q)
      have f2' : Value.int (nI k + Int32.ofInt 1) = vI (k + 1) := congrArg Value.int (by rw [nI_1', nI_add])
      refine WS.sel (l' := [(5, vI (k + 1)), (4, vI 8), (3, .ref arr), (2, .ref (B i2)), (1, .ref (B i1)), (0, .ref o)]) [5, 4, 3, 2, 1, 0] (by rw [← f2']; rfl) ?_
      exact ih (k + 1) h2 (by omega) (by omega) S2 (f1.trans f2) _ rfl
  refine fst1_ok X (dk rfl) rfl ?_
  refine getf_ok X flX0_11 (dk rfl) o1 rfl ?_
  iterate 2 refine fst1_ok X (dk rfl) rfl ?_
  refine alen_ok X (by decide) (dk rfl) o2 ?_
  rw [show ((rgB B f 8).map Value.ref).length = 8 by simp [rgB]]
  iterate 3 refine fst1_ok X (dk rfl) rfl ?_
  exact first 8 0 h rfl (Nat.zero_le _) (by rw [upK_0]; exact S) (FrT.rf h) _ rfl
end S12
