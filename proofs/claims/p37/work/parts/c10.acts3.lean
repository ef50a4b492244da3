section Uc10acts3
/-! the class's acts on answers, strongly (printed by wip/p20/genS9.py) -/
def becA (k : Nat) (made : List (List Nat)) (st : ST) : RS := if made.any (fun z => decide (16 < z.length)) then noS st else becS k made st
def aForget (x1 : Int32) (st : ST) : RS := if okI 3 x1 then anS st (st.2.1.set (xI x1) nm8) (bcF (nI (movedN (st.2.1.getD (xI x1) []) 8))) else ((1, 0), st)
def aTake (x1 x2 : Int32) (st : ST) : RS := if okI 3 x1 then (if okI 3 x2 then becS (xI x2) (st.2.1.getD (xI x1) []) st else ((1, 0), st)) else ((1, 0), st)
def aTell (x1 x2 x3 : Int32) (st : ST) : RS := if okI 3 x1 then (if okI 6 x3 then (if okI 8 x2 then
  anS st (st.2.1.set (xI x1) ((st.2.1.getD (xI x1) []).set (xI x2) (st.1.getD (xI x3) []))) (if (st.2.1.getD (xI x1) []).getD (xI x2) [] = st.1.getD (xI x3) [] then 0 else 1) else ((2, 0), st)) else ((1, 0), st)) else ((1, 0), st)
def behL (r1 r2 : List (List Nat)) : List (List Nat) := r1.map (usedL r2)
def aBehind (x1 x2 x3 : Int32) (st : ST) : RS := if okI 3 x1 then (if okI 3 x2 then (if okI 3 x3 then becA (xI x3) (behL (st.2.1.getD (xI x1) []) (st.2.1.getD (xI x2) [])) st else ((1, 0), st)) else ((1, 0), st)) else ((1, 0), st)
theorem tlA_f (F : Nat → TC) (f : Nat) : ∀ n, (∀ k, k < n → (F (f + k)).2 = false) → tlA F f n = false
  | 0, _ => rfl
  | n + 1, h => by
    unfold tlA
    rw [tlA_f F f n (fun k hk => h k (by omega)), h n (by omega)]
    rfl
theorem FS.setA {F : Nat → TC} {st : ST} (H : FS F st) {k : Nat} (hk : k < 3) (hl : st.2.1.length = 3) {rows : List (List Nat)} {G : Nat → TC} (hr : rows.length = 8) (hG : ∀ n, n < 8 → ∃ ns, rows[n]? = some ns ∧ G n = (ns.map nI, false) ∧ TW ns ∧ ns.length ≤ 16) (d r : Int32) : FS (upK F (6 + 8 * k) G 8) (st.1, st.2.1.set k rows, d, r) := by
  refine ⟨fun j hj => ?_, fun i hi => ?_⟩
  · obtain ⟨ns, h1, h2⟩ := H.1 j hj
    exact ⟨ns, h1, by rw [upK_out F _ _ (by omega)]; exact h2⟩
  · by_cases e : i = k
    · subst e
      refine ⟨rows, List.getElem?_set_self (by omega), hr, fun n hn => ?_⟩
      obtain ⟨ns, g1, g2, g3⟩ := hG n hn
      exact ⟨ns, g1, by rw [upK_in F _ G hn]; exact g2, g3⟩
    · obtain ⟨rw2, h1, h2, h3⟩ := H.2 i hi
      refine ⟨rw2, by show (st.2.1.set k rows)[i]? = _; rw [List.getElem?_set_ne (Ne.symm e)]; exact h1, h2, fun n hn => ?_⟩
      obtain ⟨ns, g1, g2, g3⟩ := h3 n hn
      exact ⟨ns, g1, by rw [upK_out F _ _ (by omega)]; exact g2, g3⟩
theorem StO.setA {st : ST} (O : StO st) {rows : List (List Nat)} (hr : AO rows) (k : Nat) (d r : Int32) : StO (st.1, st.2.1.set k rows, d, r) :=
  ⟨O.1, O.2.1, by show (st.2.1.set k rows).length = 3; rw [List.length_set]; exact O.2.2.1, fun x hx => (List.mem_or_eq_of_mem_set hx).elim (O.2.2.2 x) (fun e => by rw [e]; exact hr)⟩
theorem FS.gotA {F : Nat → TC} {sl : List (List Nat)} {an : List (List (List Nat))} {k : Nat} {rows : List (List Nat)} {d r : Int32} (H : FS F (sl, an.set k rows, d, r)) (hk : k < 3) (hl : an.length = 3) : RWX F (6 + 8 * k) rows := by
  obtain ⟨r2, q1, q2⟩ := H.2 k hk
  have e : (an.set k rows)[k]? = some rows := List.getElem?_set_self (by omega)
  have e2 : some rows = some r2 := e.symm.trans q1
  cases e2
  exact q2
theorem upK_fs {F : Nat → TC} {st : ST} (H : FS F st) {f : Nat} (hf : 30 ≤ f) (G : Nat → TC) : FS (upK F f G 8) st := by
  refine ⟨fun j hj => ?_, fun k hk => ?_⟩
  · obtain ⟨ns, h1, h2⟩ := H.1 j hj
    exact ⟨ns, h1, by rw [upK_out F _ _ (by omega)]; exact h2⟩
  · obtain ⟨rows, h1, h2, h3⟩ := H.2 k hk
    exact ⟨rows, h1, h2, fun n hn => by
      obtain ⟨ns, g1, g2, g3⟩ := h3 n hn
      exact ⟨ns, g1, by rw [upK_out F _ _ (by omega)]; exact g2, g3⟩⟩
/-- eight terms, as they come from uses -/
def MDE (F : Nat → TC) (f : Nat) (made : List (List Nat)) : Prop := made.length = 8 ∧ ∀ n, n < 8 → ∃ zs, made[n]? = some zs ∧ F (f + n) = addR 16 ([], false) (zs.map nI) ∧ TW zs
theorem addR_short {zs : List Nat} (h : zs.length ≤ 16) : addR 16 ([], false) (zs.map nI) = (zs.map nI, false) := by
  rw [addR_fit (by show 0 + (zs.map nI).length ≤ 16; rw [List.length_map]; omega)]
  exact Prod.ext (List.nil_append _) rfl
theorem addR_flag (zs : List Nat) : (addR 16 ([], false) (zs.map nI)).2 = decide (16 < zs.length) := by
  rw [addR_eq _ _ _ (Nat.zero_le _)]
  show (false || decide (16 < 0 + (zs.map nI).length)) = _
  rw [Bool.false_or, List.length_map, Nat.zero_add]
theorem MDE.tl {F : Nat → TC} {f : Nat} {made : List (List Nat)} (H : MDE F f made) : tlA F f 8 = made.any (fun z => decide (16 < z.length)) := by
  cases e : made.any (fun z => decide (16 < z.length)) with
  | true =>
    obtain ⟨z, hz, h16⟩ := List.any_eq_true.mp e
    obtain ⟨n, hn, rfl⟩ := List.mem_iff_getElem.mp hz
    have hn8 : n < 8 := by rw [← H.1]; exact hn
    obtain ⟨zs, z1, z2, -⟩ := H.2 n hn8
    rw [List.getElem?_eq_getElem hn] at z1
    cases z1
    exact tlA_le F f (k := n) (by rw [z2, addR_flag]; exact h16) 8 hn8
  | false =>
    refine tlA_f F f 8 (fun n hn => ?_)
    obtain ⟨zs, z1, z2, -⟩ := H.2 n hn
    rw [z2, addR_flag]
    cases h16 : decide (16 < zs.length) with
    | false => rfl
    | true =>
      have : made.any (fun z => decide (16 < z.length)) = true := List.any_eq_true.mpr ⟨zs, List.mem_of_getElem? z1, h16⟩
      rw [this] at e
      cases e
theorem MDE.short {F : Nat → TC} {f : Nat} {made : List (List Nat)} (H : MDE F f made) (e : made.any (fun z => decide (16 < z.length)) = false) : RWX F f made := by
  refine ⟨H.1, fun n hn => ?_⟩
  obtain ⟨zs, z1, z2, z3⟩ := H.2 n hn
  have h16 : zs.length ≤ 16 := by
    rcases Nat.lt_or_ge 16 zs.length with q | q
    · have : made.any (fun z => decide (16 < z.length)) = true := List.any_eq_true.mpr ⟨zs, List.mem_of_getElem? z1, decide_eq_true q⟩
      rw [this] at e
      cases e
    · exact q
  exact ⟨zs, z1, by rw [z2, addR_short h16], z3, h16⟩
section S10
variable {la : Launch} {D : va_G} {cA : Nat → ClassId} {B0 pa : Nat} {B Q P : Nat → Nat} {ox : Nat} {kn : Int32} {F : Nat → TC}
set_option maxHeartbeats 16000000 in
theorem s6_putSpareAnswerInto (h : AH) (Y : LYO B Q) {st : ST} (C : CLS B Q P ox kn h F st.2.2.1 st.2.2.2) (H : FS F st) (O : StO st) {k : Nat} (hk : k < 3) {made : List (List Nat)} (hm : MDE F 34 made) : CT la D cA B0 pa yX6_putSpareAnswerInto cX6_putSpareAnswerInto 2 (some .int) (rmD 5 0 0) [.ref ox, .ref (P (7 + k))] h (AP B Q P ox kn (becA k made st) h) := by
  refine CT_of (by decide +kernel) (Nat.le_of_ble_eq_true rfl) ?_
  intro p e s m args below meth c X E hr hlk hnm
  have dk : ∀ {pc : Nat} {q : Instr × Nat}, lkd DX6_putSpareAnswerInto pc = some q → decode cX6_putSpareAnswerInto pc = .ok q := lkd_ok DX6_putSpareAnswerInto_ok
  refine fst1_ok X (dk rfl) rfl ?_
  refine getf_ok X flX6_38 (dk rfl) C.2.1 rfl ?_
  have oa := C.2.2.1.2.2.2.1
  have ok := C.2.2.1.2.2.1 k hk
  refine callVR_ok (ci := 2) (T := TX0) (N := 1) (av := []) (r := []) X E (s0_isTooLong h C.1 oa) lkX0_isTooLong mlX6_230 lmX0_isTooLong lpX0_isTooLong ⟨Nat.le_of_ble_eq_true rfl, Nat.le_of_ble_eq_true rfl⟩ ⟨Nat.le_of_ble_eq_true rfl, Nat.le_of_ble_eq_true rfl⟩ rfl ⟨_, oa.2.choose_spec.1⟩ (Nat.le_of_ble_eq_true rfl) (dk rfl) ?_
  rintro _ rfl
  rw [hm.tl]
  cases e : made.any (fun z => decide (16 < z.length)) with
  | true =>
    refine br_ok X (dk rfl) rfl (show ((7 : Nat) : Int) + 8 = ((15 : Nat) : Int) from rfl) (fun q => absurd q bI_t) (fun _ => ?_)
    refine fst1_ok X (dk rfl) rfl ?_
    refine callV_ok (ci := 8) (T := TX6) (N := 14) (av := []) (r := []) X E (s6_refuse h C) lkX6_refuse mlX6_119 lmX6_refuse lpX6_refuse ⟨Nat.le_of_ble_eq_true rfl, Nat.le_of_ble_eq_true rfl⟩ ⟨Nat.le_of_ble_eq_true rfl, Nat.le_of_ble_eq_true rfl⟩ rfl C.2.1 (Nat.le_of_ble_eq_true rfl) (dk rfl) ?_
    rintro _ h1 ⟨rfl, C1, f1⟩
    have eb : becA k made st = noS st := if_pos e
    rw [eb]
    exact reti_ok X hr hlk rfl (dk rfl) (⟨rfl, rfl, ⟨F, C1, H.cnt _ _, O.cnt _ _⟩, f1⟩) (Nat.le_of_ble_eq_true rfl) (Nat.le_of_ble_eq_true rfl)
  | false =>
    refine br_ok X (dk rfl) rfl (show ((7 : Nat) : Int) + 8 = ((15 : Nat) : Int) from rfl) (fun _ => ?_) (fun q => absurd bI_f' q)
    have R := hm.short e
    iterate 2 refine fst1_ok X (dk rfl) rfl ?_
    refine getf_ok X flX6_38 (dk rfl) C.2.1 rfl ?_
    refine callVT_ok (ci := 2) (T := TX0) (N := 1) (av := [.ref (P 2)]) (r := []) X E (s0_becomeAs h Y C.1 ok oa (by omega) (fun n hn => by obtain ⟨ns, -, g2, -, g4⟩ := R.2 n hn; rw [g2, List.length_map]; exact g4)) lkX0_becomeAs mlX6_172 lmX0_becomeAs lpX0_becomeAs ⟨Nat.le_of_ble_eq_true rfl, Nat.le_of_ble_eq_true rfl⟩ ⟨Nat.le_of_ble_eq_true rfl, Nat.le_of_ble_eq_true rfl⟩ rfl ok.2.choose_spec.1 (Nat.le_of_ble_eq_true rfl) (dk rfl) (fun h1 S1 f1 => ?_)
    have C1 := C.tm Y S1 f1
    have H1 := H.setA hk O.2.2.1 (rows := made) hm.1 (fun n hn => R.2 n hn) (st.2.2.1 + Int32.ofInt 1) st.2.2.2
    have R1 : RWX (upK F (6 + 8 * k) (fun n => F (34 + n)) 8) (6 + 8 * k) made := H1.gotA hk O.2.2.1
    have ok1 := ok.keep C.1 f1
    iterate 2 refine fst1_ok X (dk rfl) rfl ?_
    refine callVR_ok (ci := 2) (T := TX0) (N := 1) (av := []) (r := [.ref ox]) X E (s0_movedCount h1 S1 ok1 R1) lkX0_movedCount mlX6_163 lmX0_movedCount lpX0_movedCount ⟨Nat.le_of_ble_eq_true rfl, Nat.le_of_ble_eq_true rfl⟩ ⟨Nat.le_of_ble_eq_true rfl, Nat.le_of_ble_eq_true rfl⟩ rfl ⟨_, ok1.2.choose_spec.1⟩ (Nat.le_of_ble_eq_true rfl) (dk rfl) ?_
    rintro _ rfl
    refine callV_ok (ci := 8) (T := TX6) (N := 14) (av := [.int (bcF (nI (movedN made 8)))]) (r := []) X E (s6_did h1 C1 _) lkX6_did mlX6_80 lmX6_did lpX6_did ⟨Nat.le_of_ble_eq_true rfl, Nat.le_of_ble_eq_true rfl⟩ ⟨Nat.le_of_ble_eq_true rfl, Nat.le_of_ble_eq_true rfl⟩ rfl C1.2.1 (Nat.le_of_ble_eq_true rfl) (dk rfl) ?_
    rintro _ h2 ⟨rfl, C2, f2⟩
    have eb : becA k made st = becS k made st := if_neg (by rw [e]; decide)
    rw [eb]
    exact reti_ok X hr hlk rfl (dk rfl) (⟨rfl, rfl, ⟨_, C2, H1, O.setA R.ao k _ _⟩, (f1.frC C.1).trans f2⟩) (Nat.le_of_ble_eq_true rfl) (Nat.le_of_ble_eq_true rfl)
set_option maxHeartbeats 8000000 in
theorem s6_forget (h : AH) (hl : la.stackTraces = false) (Y : LYO B Q) {st : ST} (C0 : StC B Q P ox kn h st) (x1 : Int32) : CTX la D cA B0 pa yX6_forget cX6_forget 4 (some .int) (rmD 7 1 6) [.ref ox, .int x1] h (AP B Q P ox kn (aForget x1 st) h) (AX (aForget x1 st) st h) := by
  refine CTX_of (by decide +kernel) (Nat.le_of_ble_eq_true rfl) ?_
  intro p e s m args below meth c X E hr hlk hnm ht
  have dk : ∀ {pc : Nat} {q : Instr × Nat}, lkd DX6_forget pc = some q → decode cX6_forget pc = .ok q := lkd_ok DX6_forget_ok
  obtain ⟨F, C, H, O⟩ := id C0
  iterate 2 refine fst1_ok X (dk rfl) rfl ?_
  refine callVX_ok (ci := 8) (T := TX6) (N := 14) (av := [.int x1]) (r := []) X E ht hlk (s6_answerOf h hl C x1) (fun E1 h1 z => AX.one (by unfold aForget; rw [if_neg (by rw [okI_f z.2.1]; decide)]) ⟨z.1, z.2.2⟩) lkX6_answerOf mlX6_151 lmX6_answerOf lpX6_answerOf ⟨Nat.le_of_ble_eq_true rfl, Nat.le_of_ble_eq_true rfl⟩ ⟨Nat.le_of_ble_eq_true rfl, Nat.le_of_ble_eq_true rfl⟩ rfl C.2.1 (Nat.le_of_ble_eq_true rfl) (dk rfl) ?_
  rintro _ h1 ⟨⟨k, hk, rfl, rfl⟩, eh⟩
  obtain rfl := eh.symm
  obtain ⟨rows, sk, rk⟩ := H.2 k hk
  have ok := C.2.2.1.2.2.1 k hk
  iterate 2 refine fst1_ok X (dk rfl) rfl ?_
  refine callVR_ok (ci := 2) (T := TX0) (N := 1) (av := []) (r := []) X E (s0_movedCount _ C.1 ok rk) lkX0_movedCount mlX6_163 lmX0_movedCount lpX0_movedCount ⟨Nat.le_of_ble_eq_true rfl, Nat.le_of_ble_eq_true rfl⟩ ⟨Nat.le_of_ble_eq_true rfl, Nat.le_of_ble_eq_true rfl⟩ rfl ⟨_, ok.2.choose_spec.1⟩ (Nat.le_of_ble_eq_true rfl) (dk rfl) ?_
  rintro _ rfl
  iterate 2 refine fst1_ok X (dk rfl) rfl ?_
  refine callVT_ok (ci := 2) (T := TX0) (N := 1) (av := []) (r := []) X E (s0_moveNone _ Y C.1 ok) lkX0_moveNone mlX6_166 lmX0_moveNone lpX0_moveNone ⟨Nat.le_of_ble_eq_true rfl, Nat.le_of_ble_eq_true rfl⟩ ⟨Nat.le_of_ble_eq_true rfl, Nat.le_of_ble_eq_true rfl⟩ rfl ok.2.choose_spec.1 (Nat.le_of_ble_eq_true rfl) (dk rfl) (fun h2 S2 f2 => ?_)
  have C2 := C.tm Y S2 f2
  iterate 2 refine fst1_ok X (dk rfl) rfl ?_
  refine callV_ok (ci := 8) (T := TX6) (N := 14) (av := [.int (bcF (nI (movedN rows 8)))]) (r := []) X E (s6_did h2 C2 _) lkX6_did mlX6_80 lmX6_did lpX6_did ⟨Nat.le_of_ble_eq_true rfl, Nat.le_of_ble_eq_true rfl⟩ ⟨Nat.le_of_ble_eq_true rfl, Nat.le_of_ble_eq_true rfl⟩ rfl C2.2.1 (Nat.le_of_ble_eq_true rfl) (dk rfl) ?_
  rintro _ h3 ⟨rfl, C3, f3⟩
  have hn8 : ∀ n, n < 8 → ∃ ns, nm8[n]? = some ns ∧ (([nI n], false) : TC) = (ns.map nI, false) ∧ TW ns ∧ ns.length ≤ 16 := fun n hn => ⟨[n], by unfold nm8; rw [List.getElem?_map, List.getElem?_range hn]; rfl, rfl, TW.name hn, Nat.le_of_ble_eq_true rfl⟩
  have H3 := H.setA hk O.2.2.1 (rows := nm8) (G := fun n => ([nI n], false)) rfl hn8 (st.2.2.1 + Int32.ofInt 1) st.2.2.2
  have a8 : AO nm8 := ⟨rfl, fun z hz => by
    unfold nm8 at hz
    rw [List.mem_map] at hz
    obtain ⟨n, hn, rfl⟩ := hz
    exact ⟨TW.name (List.mem_range.mp hn), Nat.le_of_ble_eq_true rfl⟩⟩
  have e : aForget (nI k) st = anS st (st.2.1.set k nm8) (bcF (nI (movedN rows 8))) := by
    unfold aForget
    rw [if_pos (okI_t hk (by decide)), xI_n (by omega), getD_of sk]
  rw [e]
  refine WRX.ret ?_
  exact reti_ok X hr hlk rfl (dk rfl) (⟨rfl, rfl, ⟨_, C3, H3, O.setA a8 k _ _⟩, (f2.frC C.1).trans f3⟩) (Nat.le_of_ble_eq_true rfl) (Nat.le_of_ble_eq_true rfl)
set_option maxHeartbeats 8000000 in
theorem s6_take (h : AH) (hl : la.stackTraces = false) (Y : LYO B Q) {st : ST} (C0 : StC B Q P ox kn h st) (x1 x2 : Int32) : CTX la D cA B0 pa yX6_take cX6_take 5 (some .int) (rmD 7 2 12) [.ref ox, .int x1, .int x2] h (AP B Q P ox kn (aTake x1 x2 st) h) (AX (aTake x1 x2 st) st h) := by
  refine CTX_of (by decide +kernel) (Nat.le_of_ble_eq_true rfl) ?_
  intro p e s m args below meth c X E hr hlk hnm ht
  have dk : ∀ {pc : Nat} {q : Instr × Nat}, lkd DX6_take pc = some q → decode cX6_take pc = .ok q := lkd_ok DX6_take_ok
  obtain ⟨F, C, H, O⟩ := id C0
  iterate 2 refine fst1_ok X (dk rfl) rfl ?_
  refine callVX_ok (ci := 8) (T := TX6) (N := 14) (av := [.int x1]) (r := []) X E ht hlk (s6_answerOf h hl C x1) (fun E1 h1 z => AX.one (by unfold aTake; rw [if_neg (by rw [okI_f z.2.1]; decide)]) ⟨z.1, z.2.2⟩) lkX6_answerOf mlX6_151 lmX6_answerOf lpX6_answerOf ⟨Nat.le_of_ble_eq_true rfl, Nat.le_of_ble_eq_true rfl⟩ ⟨Nat.le_of_ble_eq_true rfl, Nat.le_of_ble_eq_true rfl⟩ rfl C.2.1 (Nat.le_of_ble_eq_true rfl) (dk rfl) ?_
  rintro _ h1 ⟨⟨k, hk, rfl, rfl⟩, eh⟩
  obtain rfl := eh.symm
  iterate 3 refine fst1_ok X (dk rfl) rfl ?_
  refine callVX_ok (ci := 8) (T := TX6) (N := 14) (av := [.int x2]) (r := []) X E ht hlk (s6_answerOf _ hl C x2) (fun E1 h1 z => AX.one (by unfold aTake; rw [if_pos (okI_t hk (by decide))]; rw [if_neg (by rw [okI_f z.2.1]; decide)]) ⟨z.1, z.2.2⟩) lkX6_answerOf mlX6_151 lmX6_answerOf lpX6_answerOf ⟨Nat.le_of_ble_eq_true rfl, Nat.le_of_ble_eq_true rfl⟩ ⟨Nat.le_of_ble_eq_true rfl, Nat.le_of_ble_eq_true rfl⟩ rfl C.2.1 (Nat.le_of_ble_eq_true rfl) (dk rfl) ?_
  rintro _ h1 ⟨⟨i, hi, rfl, rfl⟩, eh⟩
  obtain rfl := eh.symm
  obtain ⟨rows, sk, rk⟩ := H.2 k hk
  have ok := C.2.2.1.2.2.1 k hk
  have oi := C.2.2.1.2.2.1 i hi
  iterate 3 refine fst1_ok X (dk rfl) rfl ?_
  refine callVT_ok (ci := 2) (T := TX0) (N := 1) (av := [.ref (P (7 + k))]) (r := []) X E (s0_becomeAs _ Y C.1 oi ok (by omega) (fun n hn => by obtain ⟨ns, -, g2, -, g4⟩ := rk.2 n hn; rw [g2, List.length_map]; exact g4)) lkX0_becomeAs mlX6_172 lmX0_becomeAs lpX0_becomeAs ⟨Nat.le_of_ble_eq_true rfl, Nat.le_of_ble_eq_true rfl⟩ ⟨Nat.le_of_ble_eq_true rfl, Nat.le_of_ble_eq_true rfl⟩ rfl oi.2.choose_spec.1 (Nat.le_of_ble_eq_true rfl) (dk rfl) (fun h2 S2 f2 => ?_)
  have C2 := C.tm Y S2 f2
  have H2 := H.setA hi O.2.2.1 (rows := rows) rk.1 (fun n hn => rk.2 n hn) (st.2.2.1 + Int32.ofInt 1) st.2.2.2
  have R2 : RWX (upK F (6 + 8 * i) (fun n => F (6 + 8 * k + n)) 8) (6 + 8 * i) rows := H2.gotA hi O.2.2.1
  have oi2 := oi.keep C.1 f2
  iterate 2 refine fst1_ok X (dk rfl) rfl ?_
  refine callVR_ok (ci := 2) (T := TX0) (N := 1) (av := []) (r := [.ref ox]) X E (s0_movedCount h2 S2 oi2 R2) lkX0_movedCount mlX6_163 lmX0_movedCount lpX0_movedCount ⟨Nat.le_of_ble_eq_true rfl, Nat.le_of_ble_eq_true rfl⟩ ⟨Nat.le_of_ble_eq_true rfl, Nat.le_of_ble_eq_true rfl⟩ rfl ⟨_, oi2.2.choose_spec.1⟩ (Nat.le_of_ble_eq_true rfl) (dk rfl) ?_
  rintro _ rfl
  refine callV_ok (ci := 8) (T := TX6) (N := 14) (av := [.int (bcF (nI (movedN rows 8)))]) (r := []) X E (s6_did h2 C2 _) lkX6_did mlX6_80 lmX6_did lpX6_did ⟨Nat.le_of_ble_eq_true rfl, Nat.le_of_ble_eq_true rfl⟩ ⟨Nat.le_of_ble_eq_true rfl, Nat.le_of_ble_eq_true rfl⟩ rfl C2.2.1 (Nat.le_of_ble_eq_true rfl) (dk rfl) ?_
  rintro _ h3 ⟨rfl, C3, f3⟩
  have e : aTake (nI k) (nI i) st = becS i rows st := by
    unfold aTake
    rw [if_pos (okI_t hk (by decide)), if_pos (okI_t hi (by decide)), xI_n (by omega), xI_n (by omega), getD_of sk]
  rw [e]
  refine WRX.ret ?_
  exact reti_ok X hr hlk rfl (dk rfl) (⟨rfl, rfl, ⟨_, C3, H2, O.setA rk.ao i _ _⟩, (f2.frC C.1).trans f3⟩) (Nat.le_of_ble_eq_true rfl) (Nat.le_of_ble_eq_true rfl)
set_option maxHeartbeats 4000000 in
theorem s0_of (h : AH) (hl : la.stackTraces = false) (S : TS B Q h F) {oo f : Nat} (OO : AnO B h oo f) (x : Int32) : CTX la D cA B0 pa yX0_of cX0_of 2 (some (.object "Branchmatch$Term")) (rmD 6 1 6) [.ref oo, .int x] h (fun v h' => (∃ j, j < 8 ∧ x = nI j ∧ v = some (.ref (B (f + j)))) ∧ h' = h) (fun E h' => E = iae ∧ ¬ inN 8 x ∧ h' = h) := by
  refine CTX_of (by decide +kernel) (Nat.le_of_ble_eq_true rfl) ?_
  intro p e s m args below meth c X E hr hlk hnm ht
  have dk : ∀ {pc : Nat} {q : Instr × Nat}, lkd DX0_of pc = some q → decode cX0_of pc = .ok q := lkd_ok DX0_of_ok
  obtain ⟨of, arr, o1, o2⟩ := id OO
  refine fst1_ok X (dk rfl) rfl ?_
  refine callNR_ok (av := [.int x]) (r := []) X E (c6_isName _ (TygN h) x) lkX6_isName mnX0_23 lsX6_isName ⟨Nat.le_of_ble_eq_true rfl, Nat.le_of_ble_eq_true rfl⟩ ⟨Nat.le_of_ble_eq_true rfl, Nat.le_of_ble_eq_true rfl⟩ (Nat.le_of_ble_eq_true rfl) (dk rfl) ?_
  rintro _ ⟨b1, rfl, hb2, hn3⟩
  refine br_ok X (dk rfl) rfl (show ((4 : Nat) : Int) + 13 = ((17 : Nat) : Int) from rfl) (fun c4 => ?_) (fun c4 => ?_)
  · obtain ⟨j, hj, rfl⟩ := hb2 (bI_nz c4)
    refine fst1_ok X (dk rfl) rfl ?_
    refine getf_ok X flX0_11 (dk rfl) o1 rfl ?_
    refine fst1_ok X (dk rfl) rfl ?_
    refine aldr_ok X (Or.inl rfl) (dk rfl) o2 (by omega) (rgB_get B f (k := j) hj) ?_
    refine WRX.ret ?_
    exact reta_ok X hr hlk (Or.inl ⟨_, rfl⟩) (Or.inr ⟨_, rfl⟩) (dk rfl) ⟨⟨j, hj, rfl, rfl⟩, rfl⟩ (Nat.le_of_ble_eq_true rfl) (Nat.le_of_ble_eq_true rfl)
  · have c5 : b1 = false := by
      cases b1 with
      | false => rfl
      | true => exact absurd bI_t c4
    exact throwS_ok X E hl ht hlk xwX0_31 (List.mem_of_getElem? (i := 8) rfl) (dk rfl) (dk rfl) (dk rfl) (dk rfl) (dk rfl) ⟨Nat.le_of_ble_eq_true rfl, Nat.le_of_ble_eq_true rfl⟩ ⟨Nat.le_of_ble_eq_true rfl, Nat.le_of_ble_eq_true rfl⟩ ⟨rfl, (hn3 c5), rfl⟩
set_option maxHeartbeats 16000000 in
theorem s6_tell (h : AH) (hl : la.stackTraces = false) (Y : LYO B Q) {st : ST} (C0 : StC B Q P ox kn h st) (x1 x2 x3 : Int32) : CTX la D cA B0 pa yX6_tell cX6_tell 8 (some .int) (rmD 7 3 18) [.ref ox, .int x1, .int x2, .int x3] h (AP B Q P ox kn (aTell x1 x2 x3 st) h) (AX (aTell x1 x2 x3 st) st h) := by
  refine CTX_of (by decide +kernel) (Nat.le_of_ble_eq_true rfl) ?_
  intro p e s m args below meth c X E hr hlk hnm ht
  have dk : ∀ {pc : Nat} {q : Instr × Nat}, lkd DX6_tell pc = some q → decode cX6_tell pc = .ok q := lkd_ok DX6_tell_ok
  obtain ⟨F, C, H, O⟩ := id C0
  iterate 2 refine fst1_ok X (dk rfl) rfl ?_
  refine callVX_ok (ci := 8) (T := TX6) (N := 14) (av := [.int x1]) (r := []) X E ht hlk (s6_answerOf h hl C x1) (fun E1 h1 z => AX.one (by unfold aTell; rw [if_neg (by rw [okI_f z.2.1]; decide)]) ⟨z.1, z.2.2⟩) lkX6_answerOf mlX6_151 lmX6_answerOf lpX6_answerOf ⟨Nat.le_of_ble_eq_true rfl, Nat.le_of_ble_eq_true rfl⟩ ⟨Nat.le_of_ble_eq_true rfl, Nat.le_of_ble_eq_true rfl⟩ rfl C.2.1 (Nat.le_of_ble_eq_true rfl) (dk rfl) ?_
  rintro _ h1 ⟨⟨k, hk, rfl, rfl⟩, eh⟩
  obtain rfl := eh.symm
  iterate 3 refine fst1_ok X (dk rfl) rfl ?_
  refine callVX_ok (ci := 8) (T := TX6) (N := 14) (av := [.int x3]) (r := []) X E ht hlk (s6_termOf _ hl C x3) (fun E1 h1 z => AX.one (by unfold aTell; rw [if_pos (okI_t hk (by decide))]; rw [if_neg (by rw [okI_f z.2.1]; decide)]) ⟨z.1, z.2.2⟩) lkX6_termOf mlX6_69 lmX6_termOf lpX6_termOf ⟨Nat.le_of_ble_eq_true rfl, Nat.le_of_ble_eq_true rfl⟩ ⟨Nat.le_of_ble_eq_true rfl, Nat.le_of_ble_eq_true rfl⟩ rfl C.2.1 (Nat.le_of_ble_eq_true rfl) (dk rfl) ?_
  rintro _ h1 ⟨⟨j, hj, rfl, rfl⟩, eh⟩
  obtain rfl := eh.symm
  obtain ⟨rows, sk, rk⟩ := H.2 k hk
  have ok := C.2.2.1.2.2.1 k hk
  obtain ⟨nj, sj, ej, tj, wj, lj⟩ := H.slot O hj
  iterate 3 refine fst1_ok X (dk rfl) rfl ?_
  refine callVX_ok (ci := 2) (T := TX0) (N := 1) (av := [.int x2]) (r := []) X E ht hlk (s0_of _ hl C.1 ok x2) (fun E1 h1 z => AX.two (by unfold aTell; rw [if_pos (okI_t hk (by decide)), if_pos (okI_t hj (by decide)), if_neg (by rw [okI_f z.2.1]; decide)]) ⟨z.1, z.2.2⟩) lkX0_of mlX6_169 lmX0_of lpX0_of ⟨Nat.le_of_ble_eq_true rfl, Nat.le_of_ble_eq_true rfl⟩ ⟨Nat.le_of_ble_eq_true rfl, Nat.le_of_ble_eq_true rfl⟩ rfl ok.2.choose_spec.1 (Nat.le_of_ble_eq_true rfl) (dk rfl) ?_
  rintro _ h1 ⟨⟨i, hi, rfl, rfl⟩, eh⟩
  obtain rfl := eh.symm
  obtain ⟨ni, si, ti, wi, li⟩ := rk.tn (n := i) hi
  iterate 3 refine fst1_ok X (dk rfl) rfl ?_
  refine callVR_ok (ci := 7) (T := TX5) (N := 3) (av := [.ref (B j)]) (r := []) X E (s5_isLike _ C.1 (i := 6 + 8 * k + i) (by omega) ti (u := j) (by omega) tj wi.1 wj.1) lkX5_isLike mlX6_111 lmX5_isLike lpX5_isLike ⟨Nat.le_of_ble_eq_true rfl, Nat.le_of_ble_eq_true rfl⟩ ⟨Nat.le_of_ble_eq_true rfl, Nat.le_of_ble_eq_true rfl⟩ rfl ⟨_, (C.1 (6 + 8 * k + i) (by omega)).2.1⟩ (Nat.le_of_ble_eq_true rfl) (dk rfl) ?_
  rintro _ rfl
  iterate 3 refine fst1_ok X (dk rfl) rfl ?_
  have hrm : rmI (6 + 8 * k + i) = 16 := if_pos (by omega)
  refine callVT_ok (ci := 7) (T := TX5) (N := 3) (av := [.ref (B j)]) (r := []) X E (s5_becomeAs _ Y C.1 (i := 6 + 8 * k + i) (by omega) (j := j) (by omega) (by rw [tj.len, hrm]; exact lj)) lkX5_becomeAs mlX6_108 lmX5_becomeAs lpX5_becomeAs ⟨Nat.le_of_ble_eq_true rfl, Nat.le_of_ble_eq_true rfl⟩ ⟨Nat.le_of_ble_eq_true rfl, Nat.le_of_ble_eq_true rfl⟩ rfl (C.1 (6 + 8 * k + i) (by omega)).2.1 (Nat.le_of_ble_eq_true rfl) (dk rfl) (fun h2 S2 f2 => ?_)
  rw [ej] at S2
  have C2 := C.tm Y S2 f2
  have H2 : FS (upF F (6 + 8 * k + i) (nj.map nI, false)) (st.1, st.2.1.set k (rows.set i nj), st.2.2.1 + Int32.ofInt 1, st.2.2.2) := by
    refine ⟨fun u hu => ?_, fun u hu => ?_⟩
    · obtain ⟨ns, g1, g2⟩ := H.1 u hu
      exact ⟨ns, g1, by rw [upF_ne _ _ (by omega)]; exact g2⟩
    · by_cases eu : u = k
      · subst eu
        refine ⟨rows.set i nj, List.getElem?_set_self (by rw [O.2.2.1]; exact hk), by rw [List.length_set]; exact rk.1, fun n hn => ?_⟩
        by_cases en : n = i
        · subst en
          exact ⟨nj, List.getElem?_set_self (by rw [rk.1]; exact hn), upF_self _ _ _, wj, lj⟩
        · obtain ⟨ns, g1, g2, g3⟩ := rk.2 n hn
          exact ⟨ns, by rw [List.getElem?_set_ne (Ne.symm en)]; exact g1, by rw [upF_ne _ _ (by omega)]; exact g2, g3⟩
      · obtain ⟨rw2, q1, q2, q3⟩ := H.2 u hu
        refine ⟨rw2, by show (st.2.1.set k (rows.set i nj))[u]? = _; rw [List.getElem?_set_ne (Ne.symm eu)]; exact q1, q2, fun n hn => ?_⟩
        obtain ⟨ns, g1, g2, g3⟩ := q3 n hn
        exact ⟨ns, g1, by rw [upF_ne _ _ (by omega)]; exact g2, g3⟩
  have O2 : StO (st.1, st.2.1.set k (rows.set i nj), st.2.2.1 + Int32.ofInt 1, st.2.2.2) := O.setA ⟨by rw [List.length_set]; exact rk.1, fun z hz => (List.mem_or_eq_of_mem_set hz).elim (rk.ao.2 z) (fun e => by rw [e]; exact ⟨wj, lj⟩)⟩ k _ _
  have fin : ∀ (t : Int32), t = (if ni = nj then 0 else 1) → ∀ l : List (Nat × Value), WRX p la e (rmD 7 3 18) s m args below meth c D cA B0 8 (AP B Q P ox kn (aTell (nI k) (nI i) (nI j) st) h) (AX (aTell (nI k) (nI i) (nI j) st) st h) 49 l [.int t, .ref ox] h2 (0 + 1 + 1 + 1) (0 + 6 + 6 + 6) := by
    intro t ht0 l
    refine callV_ok (ci := 8) (T := TX6) (N := 14) (av := [.int t]) (r := []) X E (s6_did h2 C2 _) lkX6_did mlX6_80 lmX6_did lpX6_did ⟨Nat.le_of_ble_eq_true rfl, Nat.le_of_ble_eq_true rfl⟩ ⟨Nat.le_of_ble_eq_true rfl, Nat.le_of_ble_eq_true rfl⟩ rfl C2.2.1 (Nat.le_of_ble_eq_true rfl) (dk rfl) ?_
    rintro _ h5 ⟨rfl, C5, f5⟩
    have e : aTell (nI k) (nI i) (nI j) st = anS st (st.2.1.set k (rows.set i nj)) t := by
      unfold aTell
      rw [if_pos (okI_t hk (by decide)), if_pos (okI_t hj (by decide)), if_pos (okI_t hi (by decide)), xI_n (by omega), xI_n (by omega), xI_n (by omega), getD_of sk, getD_of sj, getD_of si, ht0]
    rw [e]
    refine WRX.ret ?_
    exact reti_ok X hr hlk rfl (dk rfl) (⟨rfl, rfl, ⟨_, C5, H2, O2⟩, (f2.frC C.1).trans f5⟩) (Nat.le_of_ble_eq_true rfl) (Nat.le_of_ble_eq_true rfl)
  iterate 2 refine fst1_ok X (dk rfl) rfl ?_
  by_cases hs : ni = nj
  · rw [decide_eq_true hs]
    refine br_ok X (dk rfl) rfl (show ((41 : Nat) : Int) + 7 = ((48 : Nat) : Int) from rfl) (fun q => absurd q bI_t) (fun _ => ?_)
    refine fst1_ok X (dk rfl) rfl ?_
    refine br_ok X (dk rfl) rfl (show ((45 : Nat) : Int) + 4 = ((49 : Nat) : Int) from rfl) (fun _ => ?_) (fun q => absurd trivial q)
    exact fin _ (by rw [if_pos hs]; rfl) _
  · rw [decide_eq_false hs]
    refine br_ok X (dk rfl) rfl (show ((41 : Nat) : Int) + 7 = ((48 : Nat) : Int) from rfl) (fun _ => ?_) (fun q => absurd bI_f' q)
    refine fst1_ok X (dk rfl) rfl ?_
    exact fin _ (by rw [if_neg hs]; rfl) _
set_option maxHeartbeats 16000000 in
theorem s6_behind (h : AH) (hl : la.stackTraces = false) (Y : LYO B Q) {st : ST} (C0 : StC B Q P ox kn h st) (x1 x2 x3 : Int32) : CTX la D cA B0 pa yX6_behind cX6_behind 7 (some .int) (rmD 7 3 18) [.ref ox, .int x1, .int x2, .int x3] h (AP B Q P ox kn (aBehind x1 x2 x3 st) h) (AX (aBehind x1 x2 x3 st) st h) := by
  refine CTX_of (by decide +kernel) (Nat.le_of_ble_eq_true rfl) ?_
  intro p e s m args below meth c X E hr hlk hnm ht
  have dk : ∀ {pc : Nat} {q : Instr × Nat}, lkd DX6_behind pc = some q → decode cX6_behind pc = .ok q := lkd_ok DX6_behind_ok
  obtain ⟨F, C, H, O⟩ := id C0
  iterate 2 refine fst1_ok X (dk rfl) rfl ?_
  refine callVX_ok (ci := 8) (T := TX6) (N := 14) (av := [.int x1]) (r := []) X E ht hlk (s6_answerOf h hl C x1) (fun E1 h1 z => AX.one (by unfold aBehind; rw [if_neg (by rw [okI_f z.2.1]; decide)]) ⟨z.1, z.2.2⟩) lkX6_answerOf mlX6_151 lmX6_answerOf lpX6_answerOf ⟨Nat.le_of_ble_eq_true rfl, Nat.le_of_ble_eq_true rfl⟩ ⟨Nat.le_of_ble_eq_true rfl, Nat.le_of_ble_eq_true rfl⟩ rfl C.2.1 (Nat.le_of_ble_eq_true rfl) (dk rfl) ?_
  rintro _ h1 ⟨⟨k, hk, rfl, rfl⟩, eh⟩
  obtain rfl := eh.symm
  iterate 3 refine fst1_ok X (dk rfl) rfl ?_
  refine callVX_ok (ci := 8) (T := TX6) (N := 14) (av := [.int x2]) (r := []) X E ht hlk (s6_answerOf _ hl C x2) (fun E1 h1 z => AX.one (by unfold aBehind; rw [if_pos (okI_t hk (by decide))]; rw [if_neg (by rw [okI_f z.2.1]; decide)]) ⟨z.1, z.2.2⟩) lkX6_answerOf mlX6_151 lmX6_answerOf lpX6_answerOf ⟨Nat.le_of_ble_eq_true rfl, Nat.le_of_ble_eq_true rfl⟩ ⟨Nat.le_of_ble_eq_true rfl, Nat.le_of_ble_eq_true rfl⟩ rfl C.2.1 (Nat.le_of_ble_eq_true rfl) (dk rfl) ?_
  rintro _ h1 ⟨⟨j, hj, rfl, rfl⟩, eh⟩
  obtain rfl := eh.symm
  iterate 3 refine fst1_ok X (dk rfl) rfl ?_
  refine callVX_ok (ci := 8) (T := TX6) (N := 14) (av := [.int x3]) (r := []) X E ht hlk (s6_answerOf _ hl C x3) (fun E1 h1 z => AX.one (by unfold aBehind; rw [if_pos (okI_t hk (by decide)), if_pos (okI_t hj (by decide))]; rw [if_neg (by rw [okI_f z.2.1]; decide)]) ⟨z.1, z.2.2⟩) lkX6_answerOf mlX6_151 lmX6_answerOf lpX6_answerOf ⟨Nat.le_of_ble_eq_true rfl, Nat.le_of_ble_eq_true rfl⟩ ⟨Nat.le_of_ble_eq_true rfl, Nat.le_of_ble_eq_true rfl⟩ rfl C.2.1 (Nat.le_of_ble_eq_true rfl) (dk rfl) ?_
  rintro _ h1 ⟨⟨i, hi, rfl, rfl⟩, eh⟩
  obtain rfl := eh.symm
  obtain ⟨rows, sk, rk⟩ := H.2 k hk
  obtain ⟨r2, s2, t2⟩ := H.2 j hj
  have ok := C.2.2.1.2.2.1 k hk
  have oj := C.2.2.1.2.2.1 j hj
  have oa := C.2.2.1.2.2.2.1
  iterate 2 refine fst1_ok X (dk rfl) rfl ?_
  refine getf_ok X flX6_38 (dk rfl) C.2.1 rfl ?_
  iterate 2 refine fst1_ok X (dk rfl) rfl ?_
  refine callVT_ok (ci := 2) (T := TX0) (N := 1) (av := [.ref (P (7 + k)), .ref (P (7 + j))]) (r := []) X E (s0_becomeBoth _ Y C.1 oa ok oj (by omega) (by omega) (fun n hn => by unfold rmI; rw [if_neg (by omega), if_neg (by omega), if_pos (by omega)]) rk) lkX0_becomeBoth mlX6_175 lmX0_becomeBoth lpX0_becomeBoth ⟨Nat.le_of_ble_eq_true rfl, Nat.le_of_ble_eq_true rfl⟩ ⟨Nat.le_of_ble_eq_true rfl, Nat.le_of_ble_eq_true rfl⟩ rfl oa.2.choose_spec.1 (Nat.le_of_ble_eq_true rfl) (dk rfl) (fun h2 S2 f2 => ?_)
  have C2 := C.tm Y S2 f2
  have hm : MDE (upK F 34 (fun n => auC 16 F (6 + 8 * j) ([], false) (rows.getD n [])) 8) 34 (behL rows r2) := by
    refine ⟨by unfold behL; rw [List.length_map]; exact rk.1, fun n hn => ?_⟩
    obtain ⟨ns, g1, g2, g3, g4⟩ := rk.2 n hn
    refine ⟨usedL r2 ns, by unfold behL; rw [List.getElem?_map, g1]; rfl, ?_, TW_used t2.ao g3⟩
    rw [upK_in F 34 _ hn]
    show auC 16 F (6 + 8 * j) ([], false) (rows.getD n []) = _
    rw [getD_of g1]
    exact auC_rows t2 ns _ g3.2 (Nat.zero_le _)
  iterate 2 refine fst1_ok X (dk rfl) rfl ?_
  refine callV_ok (ci := 8) (T := TX6) (N := 14) (av := [.ref (P (7 + i))]) (r := []) X E (s6_putSpareAnswerInto h2 Y C2 (upK_fs H (by omega) _) O hi hm) lkX6_putSpareAnswerInto mlX6_179 lmX6_putSpareAnswerInto lpX6_putSpareAnswerInto ⟨Nat.le_of_ble_eq_true rfl, Nat.le_of_ble_eq_true rfl⟩ ⟨Nat.le_of_ble_eq_true rfl, Nat.le_of_ble_eq_true rfl⟩ rfl C2.2.1 (Nat.le_of_ble_eq_true rfl) (dk rfl) ?_
  rintro v h3 ⟨g1, rfl, g3, g4⟩
  have e : aBehind (nI k) (nI j) (nI i) st = becA i (behL rows r2) st := by
    unfold aBehind
    rw [if_pos (okI_t hk (by decide)), if_pos (okI_t hj (by decide)), if_pos (okI_t hi (by decide)), xI_n (by omega), xI_n (by omega), xI_n (by omega), getD_of sk, getD_of s2]
  rw [e]
  refine WRX.ret ?_
  exact reti_ok X hr hlk rfl (dk rfl) (⟨g1, rfl, g3, (f2.frC C.1).trans g4⟩) (Nat.le_of_ble_eq_true rfl) (Nat.le_of_ble_eq_true rfl)
end S10
end Uc10acts3
section Uc11acts4
/-! the class's acts, strongly: head, put, shift, plain (printed by wip/p20/genT1.py) -/
theorem nm8_get {k : Nat} (h : k < 8) : nm8[k]? = some [k] := by
  unfold nm8
  rw [List.getElem?_map, List.getElem?_range h]
  rfl
theorem nm8_len : nm8.length = 8 := rfl
theorem nm8_AO : AO nm8 := ⟨rfl, fun z hz => by
  unfold nm8 at hz
  rw [List.mem_map] at hz
  obtain ⟨n, hn, rfl⟩ := hz
  exact ⟨TW.name (List.mem_range.mp hn), Nat.le_of_ble_eq_true rfl⟩⟩
theorem AO_set {rows : List (List Nat)} (H : AO rows) {z : List Nat} (hz : TW z ∧ z.length ≤ 16) (k : Nat) : AO (rows.set k z) :=
  ⟨by rw [List.length_set]; exact H.1, fun x hx => (List.mem_or_eq_of_mem_set hx).elim (H.2 x) (fun e => by rw [e]; exact hz)⟩
theorem useL_nm {k y : Nat} (hk : k < 8) (hy : okL y) (z : List Nat) : useL (nm8.set k z) y = if y = k then z else [y] := by
  unfold useL
  rcases hy with h8 | h8
  · rw [if_pos (by omega), List.getD_eq_getElem?_getD]
    by_cases e : y = k
    · subst e
      rw [List.getElem?_set_self (by rw [nm8_len]; exact hk), if_pos rfl]
      rfl
    · rw [List.getElem?_set_ne (Ne.symm e), nm8_get h8, if_neg e]
      rfl
  · rw [if_neg (by omega), if_neg (by omega)]
theorem usedL_cons (rows : List (List Nat)) (x : Nat) (r : List Nat) : usedL rows (x :: r) = useL rows x ++ usedL rows r := List.flatMap_cons
def aPut (x1 x2 x3 : Int32) (st : ST) : RS := if okI 6 x1 then (if okI 6 x3 then (if okI 8 x2 then
  giveS (xI x1) (usedL (nm8.set (xI x2) (st.1.getD (xI x3) [])) (st.1.getD (xI x1) [])) (nI (oftenN (st.1.getD (xI x1) []) (xI x2))) st else ((2, 0), st)) else ((1, 0), st)) else ((1, 0), st)
def aShift (x1 x2 : Int32) (st : ST) : RS := if okI 6 x1 then (if okI 8 x2 then
  slS st (st.1.set (xI x1) ((st.1.getD (xI x1) []).map (shL (xI x2)))) (bcF (nI (namesN ((st.1.getD (xI x1) []).map (shL (xI x2)))))) else ((2, 0), st)) else ((1, 0), st)
/-- a term with its names counted from a on -/
def plP (ns : List Nat) : List Nat := ns.map (fun x => if x < 8 then cntN (namesN (ns.take (fpN x ns))) 8 else x)
theorem fpN_mem {x : Nat} : ∀ {ns : List Nat}, x ∈ ns → fpN x ns < ns.length
  | y :: r, h => by
    by_cases e : y = x
    · subst e
      rw [fpN_eq]
      exact Nat.zero_lt_succ _
    · rw [fpN_ne e]
      have := fpN_mem (ns := r) ((List.mem_cons.mp h).resolve_left (fun z => e z.symm))
      simp only [List.length_cons]
      omega
section S11
variable {la : Launch} {D : va_G} {cA : Nat → ClassId} {B0 pa : Nat} {B Q P : Nat → Nat} {ox : Nat} {kn : Int32} {F : Nat → TC}
set_option maxHeartbeats 8000000 in
theorem s5_becomePlainOf (h : AH) (Y : LYO B Q) (S : TS B Q h F) {i : Nat} (hi : i < 52) {j : Nat} (hj : j < 52) (hij : j ≠ i) {ns : List Nat} (hN : TN (F j) ns) (hle : ns.length ≤ rmI i) : CT la D cA B0 pa yX5_becomePlainOf cX5_becomePlainOf 4 none (rmD 2 0 0) [.ref (B i), .ref (B j)] h (TP B Q (upF F i ((plP ns).map nI, false)) h) := by
  refine CT_of (by decide +kernel) (Nat.le_of_ble_eq_true rfl) ?_
  intro p e s m args below meth c X E hr hlk hnm
  have dk : ∀ {pc : Nat} {q : Instr × Nat}, lkd DX5_becomePlainOf pc = some q → decode cX5_becomePlainOf pc = .ok q := lkd_ok DX5_becomePlainOf_ok
  have hL := rmI_le j
  have hlen := (S j hj).1
  rw [hN.len] at hlen
  have hsh : ∀ q, q ≤ ns.length → ((plP ns).take q).length = q := fun q hq => by rw [List.length_take]; unfold plP; rw [List.length_map]; omega
  have loop : ∀ (d q : Nat) (h1 : AH), d = ns.length - q → q ≤ ns.length → TS B Q h1 (upF F i (((plP ns).take q).map nI, false)) → FrT B Q h h1 → ∀ l : List (Nat × Value), lsel l [2, 1, 0] = [(2, vI q), (1, .ref (B j)), (0, .ref (B i))] → WR p la e (rmD 2 0 0) s m args below meth c D cA B0 4 (TP B Q (upF F i ((plP ns).map nI, false)) h) 6 l [] h1 0 0 := by
    intro d
    induction d with
    | zero =>
      intro q h1 hd hq S1 f1 l hl
      have hq2 : q = ns.length := by omega
      have c2 := (S1 j hj).2.1
      rw [upF_ne _ _ hij, hN.len] at c2
      refine WS.sel [2, 1, 0] hl ?_
      iterate 2 refine fst1_ok X (dk rfl) rfl ?_
      refine getf_ok X flX5_21 (dk rfl) c2 rfl ?_
      refine br_ok X (dk rfl) rfl (show ((11 : Nat) : Int) + 43 = ((54 : Nat) : Int) from rfl) (fun _ => ?_) (fun q => absurd (by rw [hq2]; exact Int32.le_refl _) q)
      rw [List.take_of_length_le (by unfold plP; rw [List.length_map]; omega)] at S1
      exact retv_ok X hr hlk (dk rfl) (⟨rfl, S1, f1⟩) (Nat.le_of_ble_eq_true rfl) (Nat.le_of_ble_eq_true rfl)
    | succ d ih =>
      intro q h1 hd hq S1 f1 l hl
      have c2 := (S1 j hj).2.1
      rw [upF_ne _ _ hij, hN.len] at c2
      obtain ⟨y, hy⟩ : ∃ y, ns[q]? = some y := ⟨_, List.getElem?_eq_getElem (by omega)⟩
      have hok := hN.2 y (List.mem_of_getElem? hy)
      have hyx := hok.lt
      have hN1 : TN (upF F i (((plP ns).take q).map nI, false) j) ns := by rw [upF_ne _ _ hij]; exact hN
      refine WS.sel [2, 1, 0] hl ?_
      iterate 2 refine fst1_ok X (dk rfl) rfl ?_
      refine getf_ok X flX5_21 (dk rfl) c2 rfl ?_
      refine br_ok X (dk rfl) rfl (show ((11 : Nat) : Int) + 43 = ((54 : Nat) : Int) from rfl) (fun q => absurd q (nI_ge (by omega) (by omega))) (fun _ => ?_)
      iterate 2 refine fst1_ok X (dk rfl) rfl ?_
      refine callVR_ok (ci := 7) (T := TX5) (N := 3) (av := [vI q]) (r := []) X E (s5_letterAt h1 S1 hj (nI q)) lkX5_letterAt mlX5_29 lmX5_letterAt lpX5_letterAt ⟨Nat.le_of_ble_eq_true rfl, Nat.le_of_ble_eq_true rfl⟩ ⟨Nat.le_of_ble_eq_true rfl, Nat.le_of_ble_eq_true rfl⟩ rfl ⟨_, (S1 j hj).2.1⟩ (Nat.le_of_ble_eq_true rfl) (dk rfl) ?_
      rintro _ rfl
      rw [hN1.lt hy (by omega)]
      iterate 3 refine fst1_ok X (dk rfl) rfl ?_
      refine callNR_ok (av := [vI y]) (r := [.ref (B i)]) X E (s6_isName h1 (x := y) (by omega)) lkX6_isName mnX5_44 lsX6_isName ⟨Nat.le_of_ble_eq_true rfl, Nat.le_of_ble_eq_true rfl⟩ ⟨Nat.le_of_ble_eq_true rfl, Nat.le_of_ble_eq_true rfl⟩ (Nat.le_of_ble_eq_true rfl) (dk rfl) ?_
      rintro _ rfl
      have f3 : Value.int (nI q + Int32.ofInt 1) = vI (q + 1) := congrArg Value.int (by rw [nI_1', nI_add])
      have hp2 : (plP ns)[q]? = some (if y < 8 then cntN (namesN (ns.take (fpN y ns))) 8 else y) := by
        unfold plP
        rw [List.getElem?_map, hy]
        rfl
      have nxt : ∀ (z : Nat), (plP ns)[q]? = some z → ∀ l : List (Nat × Value), lsel l [2, 1, 0] = [(2, vI q), (1, .ref (B j)), (0, .ref (B i))] → WR p la e (rmD 2 0 0) s m args below meth c D cA B0 4 (TP B Q (upF F i ((plP ns).map nI, false)) h) 45 l [vI z, .ref (B i)] h1 0 0 := by
        intro z hz l hl
        refine WS.sel [2, 1, 0] hl ?_
        refine callVT_ok (ci := 7) (T := TX5) (N := 3) (av := [vI z]) (r := []) X E (s5_add h1 Y S1 hi (nI z)) lkX5_add mlX5_33 lmX5_add lpX5_add ⟨Nat.le_of_ble_eq_true rfl, Nat.le_of_ble_eq_true rfl⟩ ⟨Nat.le_of_ble_eq_true rfl, Nat.le_of_ble_eq_true rfl⟩ rfl (S1 i hi).2.1 (Nat.le_of_ble_eq_true rfl) (dk rfl) (fun h2 S2 f2 => ?_)
        have e1 : addC (rmI i) (upF F i (((plP ns).take q).map nI, false) i) (nI z) = (((plP ns).take (q + 1)).map nI, false) := by
          rw [upF_self]
          unfold addC
          rw [if_pos (by show (((plP ns).take q).map nI).length < rmI i; rw [List.length_map, hsh q (by omega)]; omega), List.take_add_one, hz, List.map_append]
          rfl
        rw [e1, upF_up] at S2
        refine fst1_ok X (dk rfl) rfl ?_
        refine br_ok X (dk rfl) rfl (show ((51 : Nat) : Int) + (-45) = ((6 : Nat) : Int) from rfl) (fun _ => ?_) (fun q => absurd trivial q)
        refine WS.sel (l' := [(2, vI (q + 1)), (1, .ref (B j)), (0, .ref (B i))]) [2, 1, 0] (by rw [← f3]; rfl) ?_
        exact ih (q + 1) h2 (by omega) (by omega) S2 (f1.trans f2) _ rfl
      by_cases h8 : y < 8
      · rw [decide_eq_true h8]
        rw [if_pos h8] at hp2
        refine br_ok X (dk rfl) rfl (show ((25 : Nat) : Int) + 19 = ((44 : Nat) : Int) from rfl) (fun q => absurd q bI_t) (fun _ => ?_)
        iterate 4 refine fst1_ok X (dk rfl) rfl ?_
        refine callVR_ok (ci := 7) (T := TX5) (N := 3) (av := [vI y]) (r := [vI 0, .ref (B j), .ref (B i)]) X E (s5_firstPlaceOf h1 S1 hj hN1 (x := y) (by omega)) lkX5_firstPlaceOf mlX5_48 lmX5_firstPlaceOf lpX5_firstPlaceOf ⟨Nat.le_of_ble_eq_true rfl, Nat.le_of_ble_eq_true rfl⟩ ⟨Nat.le_of_ble_eq_true rfl, Nat.le_of_ble_eq_true rfl⟩ rfl ⟨_, (S1 j hj).2.1⟩ (Nat.le_of_ble_eq_true rfl) (dk rfl) ?_
        rintro _ rfl
        have hfp := fpN_mem (List.mem_of_getElem? hy)
        rw [if_pos hfp]
        refine callVR_ok (ci := 7) (T := TX5) (N := 3) (av := [vI 0, vI (fpN y ns)]) (r := [.ref (B i)]) X E (s5_namesIn h1 S1 hj hN1 (a := 0) (b := fpN y ns) (Nat.zero_le _) (by omega)) lkX5_namesIn mlX5_51 lmX5_namesIn lpX5_namesIn ⟨Nat.le_of_ble_eq_true rfl, Nat.le_of_ble_eq_true rfl⟩ ⟨Nat.le_of_ble_eq_true rfl, Nat.le_of_ble_eq_true rfl⟩ rfl ⟨_, (S1 j hj).2.1⟩ (Nat.le_of_ble_eq_true rfl) (dk rfl) ?_
        rintro _ rfl
        rw [List.drop_zero, Nat.sub_zero]
        refine callS_ok (av := [vI (namesN (ns.take (fpN y ns)))]) (r := [.ref (B i)]) X E (c_bitCount h1 _) lkJ6_bitCount_0f7a4 mlX5_54 lsJ6_bitCount_0f7a4 ⟨Nat.le_of_ble_eq_true rfl, Nat.le_of_ble_eq_true rfl⟩ ⟨Nat.le_of_ble_eq_true rfl, Nat.le_of_ble_eq_true rfl⟩ (Nat.le_of_ble_eq_true rfl) (dk rfl) ?_
        rintro v h' ⟨rfl, rfl⟩
        rw [(cnt_bc (namesN_lt (fun x hx => hN.2 x (List.mem_of_mem_take hx)))).1]
        refine br_ok X (dk rfl) rfl (show ((41 : Nat) : Int) + 4 = ((45 : Nat) : Int) from rfl) (fun _ => ?_) (fun q => absurd trivial q)
        exact nxt _ hp2 _ rfl
      · rw [decide_eq_false h8]
        rw [if_neg h8] at hp2
        refine br_ok X (dk rfl) rfl (show ((25 : Nat) : Int) + 19 = ((44 : Nat) : Int) from rfl) (fun _ => ?_) (fun q => absurd bI_f' q)
        refine fst1_ok X (dk rfl) rfl ?_
        exact nxt _ hp2 _ rfl
  refine fst1_ok X (dk rfl) rfl ?_
  refine callVT_ok (ci := 7) (T := TX5) (N := 3) (av := []) (r := []) X E (s5_empty h Y S hi) lkX5_empty mlX5_37 lmX5_empty lpX5_empty ⟨Nat.le_of_ble_eq_true rfl, Nat.le_of_ble_eq_true rfl⟩ ⟨Nat.le_of_ble_eq_true rfl, Nat.le_of_ble_eq_true rfl⟩ rfl (S i hi).2.1 (Nat.le_of_ble_eq_true rfl) (dk rfl) (fun h1 S1 f1 => ?_)
  iterate 2 refine fst1_ok X (dk rfl) rfl ?_
  exact loop _ 0 h1 rfl (Nat.zero_le _) (by rw [List.take_zero]; exact S1) f1 _ rfl
set_option maxHeartbeats 32000000 in
theorem s6_head (h : AH) (hl : la.stackTraces = false) (Y : LYO B Q) {st : ST} (C0 : StC B Q P ox kn h st) (x1 x2 x3 x4 x5 : Int32) : CTX la D cA B0 pa yX6_head cX6_head 12 (some .int) (rmD 7 5 30) [.ref ox, .int x1, .int x2, .int x3, .int x4, .int x5] h (AP B Q P ox kn (aHead x1 x2 x3 x4 x5 st) h) (AX (aHead x1 x2 x3 x4 x5 st) st h) := by
  refine CTX_of (by decide +kernel) (Nat.le_of_ble_eq_true rfl) ?_
  intro p e s m args below meth c X E hr hlk hnm ht
  have dk : ∀ {pc : Nat} {q : Instr × Nat}, lkd DX6_head pc = some q → decode cX6_head pc = .ok q := lkd_ok DX6_head_ok
  obtain ⟨F, C, H, O⟩ := id C0
  iterate 2 refine fst1_ok X (dk rfl) rfl ?_
  refine callVX_ok (ci := 8) (T := TX6) (N := 14) (av := [.int x1]) (r := []) X E ht hlk (s6_termOf h hl C x1) (fun E1 h1 z => AX.one (by unfold aHead; rw [if_neg (by rw [okI_f z.2.1]; decide)]) ⟨z.1, z.2.2⟩) lkX6_termOf mlX6_69 lmX6_termOf lpX6_termOf ⟨Nat.le_of_ble_eq_true rfl, Nat.le_of_ble_eq_true rfl⟩ ⟨Nat.le_of_ble_eq_true rfl, Nat.le_of_ble_eq_true rfl⟩ rfl C.2.1 (Nat.le_of_ble_eq_true rfl) (dk rfl) ?_
  rintro _ h1 ⟨⟨j, hj, rfl, rfl⟩, eh⟩
  obtain rfl := eh.symm
  iterate 3 refine fst1_ok X (dk rfl) rfl ?_
  refine callVX_ok (ci := 8) (T := TX6) (N := 14) (av := [.int x3]) (r := []) X E ht hlk (s6_termOf _ hl C x3) (fun E1 h1 z => AX.one (by unfold aHead; rw [if_pos (okI_t hj (by decide))]; rw [if_neg (by rw [okI_f z.2.1]; decide)]) ⟨z.1, z.2.2⟩) lkX6_termOf mlX6_69 lmX6_termOf lpX6_termOf ⟨Nat.le_of_ble_eq_true rfl, Nat.le_of_ble_eq_true rfl⟩ ⟨Nat.le_of_ble_eq_true rfl, Nat.le_of_ble_eq_true rfl⟩ rfl C.2.1 (Nat.le_of_ble_eq_true rfl) (dk rfl) ?_
  rintro _ h1 ⟨⟨ka, hka, rfl, rfl⟩, eh⟩
  obtain rfl := eh.symm
  iterate 3 refine fst1_ok X (dk rfl) rfl ?_
  refine callVX_ok (ci := 8) (T := TX6) (N := 14) (av := [.int x4]) (r := []) X E ht hlk (s6_termOf _ hl C x4) (fun E1 h1 z => AX.one (by unfold aHead; rw [if_pos (okI_t hj (by decide)), if_pos (okI_t hka (by decide))]; rw [if_neg (by rw [okI_f z.2.1]; decide)]) ⟨z.1, z.2.2⟩) lkX6_termOf mlX6_69 lmX6_termOf lpX6_termOf ⟨Nat.le_of_ble_eq_true rfl, Nat.le_of_ble_eq_true rfl⟩ ⟨Nat.le_of_ble_eq_true rfl, Nat.le_of_ble_eq_true rfl⟩ rfl C.2.1 (Nat.le_of_ble_eq_true rfl) (dk rfl) ?_
  rintro _ h1 ⟨⟨kb, hkb, rfl, rfl⟩, eh⟩
  obtain rfl := eh.symm
  iterate 3 refine fst1_ok X (dk rfl) rfl ?_
  refine callVX_ok (ci := 8) (T := TX6) (N := 14) (av := [.int x5]) (r := []) X E ht hlk (s6_termOf _ hl C x5) (fun E1 h1 z => AX.one (by unfold aHead; rw [if_pos (okI_t hj (by decide)), if_pos (okI_t hka (by decide)), if_pos (okI_t hkb (by decide))]; rw [if_neg (by rw [okI_f z.2.1]; decide)]) ⟨z.1, z.2.2⟩) lkX6_termOf mlX6_69 lmX6_termOf lpX6_termOf ⟨Nat.le_of_ble_eq_true rfl, Nat.le_of_ble_eq_true rfl⟩ ⟨Nat.le_of_ble_eq_true rfl, Nat.le_of_ble_eq_true rfl⟩ rfl C.2.1 (Nat.le_of_ble_eq_true rfl) (dk rfl) ?_
  rintro _ h1 ⟨⟨kg, hkg, rfl, rfl⟩, eh⟩
  obtain rfl := eh.symm
  obtain ⟨nj, sj, ej, tj, wj, lj⟩ := H.slot O hj
  obtain ⟨nka, ska, eka, tka, wka, lka⟩ := H.slot O hka
  obtain ⟨nkb, skb, ekb, tkb, wkb, lkb⟩ := H.slot O hkb
  obtain ⟨nkg, skg, ekg, tkg, wkg, lkg⟩ := H.slot O hkg
  iterate 2 refine fst1_ok X (dk rfl) rfl ?_
  refine br_ok X (dk rfl) rfl (show ((31 : Nat) : Int) + 9 = ((40 : Nat) : Int) from rfl) (fun c1 => ?_) (fun c1 => ?_)
  · exact throwS_ok X E hl ht hlk xwX6_88 (List.mem_of_getElem? (i := 7) rfl) (dk rfl) (dk rfl) (dk rfl) (dk rfl) (dk rfl) ⟨Nat.le_of_ble_eq_true rfl, Nat.le_of_ble_eq_true rfl⟩ ⟨Nat.le_of_ble_eq_true rfl, Nat.le_of_ble_eq_true rfl⟩ (AX.two (by unfold aHead; rw [if_pos (okI_t hj (by decide)), if_pos (okI_t hka (by decide)), if_pos (okI_t hkb (by decide)), if_pos (okI_t hkg (by decide)), if_neg (by rw [okI_f (fun z => inN_pos z (by decide) c1)]; decide)]) ⟨rfl, rfl⟩)
  · iterate 2 refine fst1_ok X (dk rfl) rfl ?_
    refine br_ok X (dk rfl) rfl (show ((37 : Nat) : Int) + 13 = ((50 : Nat) : Int) from rfl) (fun c2 => ?_) (fun c2 => ?_)
    · obtain ⟨i, hi, rfl⟩ := inN_of (N := 8) (by decide) c1 (Int32.not_le.mpr (by rw [← nI_8']; exact c2))
      iterate 5 refine fst1_ok X (dk rfl) rfl ?_
      have el : (Int8.ofInt 10).toInt32 + nI i = nI (i + 10) := by rw [nI_10, nI_add, Nat.add_comm]
      rw [el]
      refine callSR_ok (av := [vI (i + 10)]) (r := []) X E (s6_partsOf _ (x := i + 10) (by omega)) lkX6_partsOf mlX6_91 lsX6_partsOf ⟨Nat.le_of_ble_eq_true rfl, Nat.le_of_ble_eq_true rfl⟩ ⟨Nat.le_of_ble_eq_true rfl, Nat.le_of_ble_eq_true rfl⟩ (Nat.le_of_ble_eq_true rfl) (dk rfl) ?_
      rintro _ rfl
      iterate 2 refine fst1_ok X (dk rfl) rfl ?_
      refine getf_ok X flX6_24 (dk rfl) C.2.1 rfl ?_
      refine callVT_ok (ci := 7) (T := TX5) (N := 3) (av := []) (r := []) X E (s5_empty _ Y C.1 (i := 30) (by omega)) lkX5_empty mlX6_94 lmX5_empty lpX5_empty ⟨Nat.le_of_ble_eq_true rfl, Nat.le_of_ble_eq_true rfl⟩ ⟨Nat.le_of_ble_eq_true rfl, Nat.le_of_ble_eq_true rfl⟩ rfl (C.1 30 (by omega)).2.1 (Nat.le_of_ble_eq_true rfl) (dk rfl) (fun h2 S2 f2 => ?_)
      have C2 := C.tm Y S2 f2
      refine fst1_ok X (dk rfl) rfl ?_
      refine getf_ok X flX6_24 (dk rfl) C2.2.1 rfl ?_
      refine fst1_ok X (dk rfl) rfl ?_
      refine callVT_ok (ci := 7) (T := TX5) (N := 3) (av := [vI (i + 10)]) (r := []) X E (s5_add h2 Y S2 (i := 30) (by omega) (nI (i + 10))) lkX5_add mlX6_97 lmX5_add lpX5_add ⟨Nat.le_of_ble_eq_true rfl, Nat.le_of_ble_eq_true rfl⟩ ⟨Nat.le_of_ble_eq_true rfl, Nat.le_of_ble_eq_true rfl⟩ rfl (S2 30 (by omega)).2.1 (Nat.le_of_ble_eq_true rfl) (dk rfl) (fun h3 S3 f3 => ?_)
      have e3 : upF (upF F 30 ([], false)) 30 (addC (rmI 30) (upF F 30 ([], false) 30) (nI (i + 10))) = upF F 30 (addR 16 ([], false) (([i + 10] : List Nat).map nI)) := by
        rw [upF_up, upF_self]
        rfl
      rw [e3] at S3
      have C3 := C2.tm Y S3 f3
      have F3 := (f2.trans f3)
      have W0 := Wnt.head (x := i + 10) (Or.inr ⟨by omega, by omega⟩)
      have hp : pF (i + 10) = 0 ∨ pF (i + 10) = 1 ∨ pF (i + 10) = 2 ∨ pF (i + 10) = 3 := by have := pF_le3 (x := i + 10) (by omega); omega
      rcases hp with hp | hp | hp | hp
      · rw [hp]
        rw [hp] at W0
        refine fst1_ok X (dk rfl) rfl ?_
        refine br_ok X (dk rfl) rfl (show ((81 : Nat) : Int) + 12 = ((93 : Nat) : Int) from rfl) (fun _ => ?_) (fun q => absurd (by decide) q)
        iterate 2 refine fst1_ok X (dk rfl) rfl ?_
        refine br_ok X (dk rfl) rfl (show ((96 : Nat) : Int) + 12 = ((108 : Nat) : Int) from rfl) (fun _ => ?_) (fun q => absurd (by decide) q)
        iterate 2 refine fst1_ok X (dk rfl) rfl ?_
        refine br_ok X (dk rfl) rfl (show ((111 : Nat) : Int) + 12 = ((123 : Nat) : Int) from rfl) (fun _ => ?_) (fun q => absurd (by decide) q)
        iterate 2 refine fst1_ok X (dk rfl) rfl ?_
        refine callV_ok (ci := 8) (T := TX6) (N := 14) (av := [.ref (B j)]) (r := []) X E (s6_putSpareInto h3 Y C3 (j := j) hj (zs := _) (upF_self _ _ _)) lkX6_putSpareInto mlX6_104 lmX6_putSpareInto lpX6_putSpareInto ⟨Nat.le_of_ble_eq_true rfl, Nat.le_of_ble_eq_true rfl⟩ ⟨Nat.le_of_ble_eq_true rfl, Nat.le_of_ble_eq_true rfl⟩ rfl C3.2.1 (Nat.le_of_ble_eq_true rfl) (dk rfl) ?_
        intro v h9 G
        have Gf := gvP.ap G (F3.frC C.1) (upF_fs H (i := 30) (by omega) _) O hj ((W0).tw)
        have ez : (i + 10) :: (([nka, nkb, nkg] : List (List Nat)).take (pF (i + 10))).flatten = [i + 10] := by rw [hp]; simp
        have e : aHead (nI j) (nI i) (nI ka) (nI kb) (nI kg) st = giveS j ([i + 10]) (nI ([i + 10]).length) st := by
          unfold aHead
          rw [if_pos (okI_t hj (by decide)), if_pos (okI_t hka (by decide)), if_pos (okI_t hkb (by decide)), if_pos (okI_t hkg (by decide)), if_pos (okI_t hi (by decide)), xI_n (by omega), xI_n (by omega), xI_n (by omega), xI_n (by omega), xI_n (by omega), getD_of ska, getD_of skb, getD_of skg, ez]
        rw [← e] at Gf
        obtain ⟨g1, rfl, g3⟩ := Gf
        refine WRX.ret ?_
        exact reti_ok X hr hlk rfl (dk rfl) (⟨g1, rfl, g3⟩) (Nat.le_of_ble_eq_true rfl) (Nat.le_of_ble_eq_true rfl)
      · rw [hp]
        rw [hp] at W0
        refine fst1_ok X (dk rfl) rfl ?_
        refine br_ok X (dk rfl) rfl (show ((81 : Nat) : Int) + 12 = ((93 : Nat) : Int) from rfl) (fun q => absurd q (by decide)) (fun _ => ?_)
        refine fst1_ok X (dk rfl) rfl ?_
        refine getf_ok X flX6_24 (dk rfl) C3.2.1 rfl ?_
        refine fst1_ok X (dk rfl) rfl ?_
        have t3ka : upF F 30 (addR 16 ([], false) (([i + 10] : List Nat).map nI)) ka = (nka.map nI, false) := by rw [upF_ne _ _ (by omega)]; exact eka
        refine callVT_ok (ci := 7) (T := TX5) (N := 3) (av := [.ref (B ka)]) (r := []) X E (s5_addTerm h3 Y S3 (i := 30) (by omega) (j := ka) (by omega) (by omega)) lkX5_addTerm mlX6_100 lmX5_addTerm lpX5_addTerm ⟨Nat.le_of_ble_eq_true rfl, Nat.le_of_ble_eq_true rfl⟩ ⟨Nat.le_of_ble_eq_true rfl, Nat.le_of_ble_eq_true rfl⟩ rfl (S3 30 (by omega)).2.1 (Nat.le_of_ble_eq_true rfl) (dk rfl) (fun h4 S4 f4 => ?_)
        rw [t3ka, upF_self, upF_up, addT_rows, show rmI 30 = 16 from rfl, addR_app, ← List.map_append] at S4
        have C4 := C3.tm Y S4 f4
        have F4 := F3.trans f4
        iterate 2 refine fst1_ok X (dk rfl) rfl ?_
        refine br_ok X (dk rfl) rfl (show ((96 : Nat) : Int) + 12 = ((108 : Nat) : Int) from rfl) (fun _ => ?_) (fun q => absurd (by decide) q)
        iterate 2 refine fst1_ok X (dk rfl) rfl ?_
        refine br_ok X (dk rfl) rfl (show ((111 : Nat) : Int) + 12 = ((123 : Nat) : Int) from rfl) (fun _ => ?_) (fun q => absurd (by decide) q)
        iterate 2 refine fst1_ok X (dk rfl) rfl ?_
        refine callV_ok (ci := 8) (T := TX6) (N := 14) (av := [.ref (B j)]) (r := []) X E (s6_putSpareInto h4 Y C4 (j := j) hj (zs := _) (upF_self _ _ _)) lkX6_putSpareInto mlX6_104 lmX6_putSpareInto lpX6_putSpareInto ⟨Nat.le_of_ble_eq_true rfl, Nat.le_of_ble_eq_true rfl⟩ ⟨Nat.le_of_ble_eq_true rfl, Nat.le_of_ble_eq_true rfl⟩ rfl C4.2.1 (Nat.le_of_ble_eq_true rfl) (dk rfl) ?_
        intro v h9 G
        have Gf := gvP.ap G (F4.frC C.1) (upF_fs H (i := 30) (by omega) _) O hj (((W0).more wka).tw)
        have ez : (i + 10) :: (([nka, nkb, nkg] : List (List Nat)).take (pF (i + 10))).flatten = [i + 10] ++ nka := by rw [hp]; simp
        have e : aHead (nI j) (nI i) (nI ka) (nI kb) (nI kg) st = giveS j ([i + 10] ++ nka) (nI ([i + 10] ++ nka).length) st := by
          unfold aHead
          rw [if_pos (okI_t hj (by decide)), if_pos (okI_t hka (by decide)), if_pos (okI_t hkb (by decide)), if_pos (okI_t hkg (by decide)), if_pos (okI_t hi (by decide)), xI_n (by omega), xI_n (by omega), xI_n (by omega), xI_n (by omega), xI_n (by omega), getD_of ska, getD_of skb, getD_of skg, ez]
        rw [← e] at Gf
        obtain ⟨g1, rfl, g3⟩ := Gf
        refine WRX.ret ?_
        exact reti_ok X hr hlk rfl (dk rfl) (⟨g1, rfl, g3⟩) (Nat.le_of_ble_eq_true rfl) (Nat.le_of_ble_eq_true rfl)
      · rw [hp]
        rw [hp] at W0
        refine fst1_ok X (dk rfl) rfl ?_
        refine br_ok X (dk rfl) rfl (show ((81 : Nat) : Int) + 12 = ((93 : Nat) : Int) from rfl) (fun q => absurd q (by decide)) (fun _ => ?_)
        refine fst1_ok X (dk rfl) rfl ?_
        refine getf_ok X flX6_24 (dk rfl) C3.2.1 rfl ?_
        refine fst1_ok X (dk rfl) rfl ?_
        have t3ka : upF F 30 (addR 16 ([], false) (([i + 10] : List Nat).map nI)) ka = (nka.map nI, false) := by rw [upF_ne _ _ (by omega)]; exact eka
        refine callVT_ok (ci := 7) (T := TX5) (N := 3) (av := [.ref (B ka)]) (r := []) X E (s5_addTerm h3 Y S3 (i := 30) (by omega) (j := ka) (by omega) (by omega)) lkX5_addTerm mlX6_100 lmX5_addTerm lpX5_addTerm ⟨Nat.le_of_ble_eq_true rfl, Nat.le_of_ble_eq_true rfl⟩ ⟨Nat.le_of_ble_eq_true rfl, Nat.le_of_ble_eq_true rfl⟩ rfl (S3 30 (by omega)).2.1 (Nat.le_of_ble_eq_true rfl) (dk rfl) (fun h4 S4 f4 => ?_)
        rw [t3ka, upF_self, upF_up, addT_rows, show rmI 30 = 16 from rfl, addR_app, ← List.map_append] at S4
        have C4 := C3.tm Y S4 f4
        have F4 := F3.trans f4
        iterate 2 refine fst1_ok X (dk rfl) rfl ?_
        refine br_ok X (dk rfl) rfl (show ((96 : Nat) : Int) + 12 = ((108 : Nat) : Int) from rfl) (fun q => absurd q (by decide)) (fun _ => ?_)
        refine fst1_ok X (dk rfl) rfl ?_
        refine getf_ok X flX6_24 (dk rfl) C4.2.1 rfl ?_
        refine fst1_ok X (dk rfl) rfl ?_
        have t4kb : upF F 30 (addR 16 ([], false) (([i + 10] ++ nka : List Nat).map nI)) kb = (nkb.map nI, false) := by rw [upF_ne _ _ (by omega)]; exact ekb
        refine callVT_ok (ci := 7) (T := TX5) (N := 3) (av := [.ref (B kb)]) (r := []) X E (s5_addTerm h4 Y S4 (i := 30) (by omega) (j := kb) (by omega) (by omega)) lkX5_addTerm mlX6_100 lmX5_addTerm lpX5_addTerm ⟨Nat.le_of_ble_eq_true rfl, Nat.le_of_ble_eq_true rfl⟩ ⟨Nat.le_of_ble_eq_true rfl, Nat.le_of_ble_eq_true rfl⟩ rfl (S4 30 (by omega)).2.1 (Nat.le_of_ble_eq_true rfl) (dk rfl) (fun h5 S5 f5 => ?_)
        rw [t4kb, upF_self, upF_up, addT_rows, show rmI 30 = 16 from rfl, addR_app, ← List.map_append] at S5
        have C5 := C4.tm Y S5 f5
        have F5 := F4.trans f5
        iterate 2 refine fst1_ok X (dk rfl) rfl ?_
        refine br_ok X (dk rfl) rfl (show ((111 : Nat) : Int) + 12 = ((123 : Nat) : Int) from rfl) (fun _ => ?_) (fun q => absurd (by decide) q)
        iterate 2 refine fst1_ok X (dk rfl) rfl ?_
        refine callV_ok (ci := 8) (T := TX6) (N := 14) (av := [.ref (B j)]) (r := []) X E (s6_putSpareInto h5 Y C5 (j := j) hj (zs := _) (upF_self _ _ _)) lkX6_putSpareInto mlX6_104 lmX6_putSpareInto lpX6_putSpareInto ⟨Nat.le_of_ble_eq_true rfl, Nat.le_of_ble_eq_true rfl⟩ ⟨Nat.le_of_ble_eq_true rfl, Nat.le_of_ble_eq_true rfl⟩ rfl C5.2.1 (Nat.le_of_ble_eq_true rfl) (dk rfl) ?_
        intro v h9 G
        have Gf := gvP.ap G (F5.frC C.1) (upF_fs H (i := 30) (by omega) _) O hj ((((W0).more wka).more wkb).tw)
        have ez : (i + 10) :: (([nka, nkb, nkg] : List (List Nat)).take (pF (i + 10))).flatten = ([i + 10] ++ nka) ++ nkb := by rw [hp]; simp
        have e : aHead (nI j) (nI i) (nI ka) (nI kb) (nI kg) st = giveS j (([i + 10] ++ nka) ++ nkb) (nI (([i + 10] ++ nka) ++ nkb).length) st := by
          unfold aHead
          rw [if_pos (okI_t hj (by decide)), if_pos (okI_t hka (by decide)), if_pos (okI_t hkb (by decide)), if_pos (okI_t hkg (by decide)), if_pos (okI_t hi (by decide)), xI_n (by omega), xI_n (by omega), xI_n (by omega), xI_n (by omega), xI_n (by omega), getD_of ska, getD_of skb, getD_of skg, ez]
        rw [← e] at Gf
        obtain ⟨g1, rfl, g3⟩ := Gf
        refine WRX.ret ?_
        exact reti_ok X hr hlk rfl (dk rfl) (⟨g1, rfl, g3⟩) (Nat.le_of_ble_eq_true rfl) (Nat.le_of_ble_eq_true rfl)
      · rw [hp]
        rw [hp] at W0
        refine fst1_ok X (dk rfl) rfl ?_
        refine br_ok X (dk rfl) rfl (show ((81 : Nat) : Int) + 12 = ((93 : Nat) : Int) from rfl) (fun q => absurd q (by decide)) (fun _ => ?_)
        refine fst1_ok X (dk rfl) rfl ?_
        refine getf_ok X flX6_24 (dk rfl) C3.2.1 rfl ?_
        refine fst1_ok X (dk rfl) rfl ?_
        have t3ka : upF F 30 (addR 16 ([], false) (([i + 10] : List Nat).map nI)) ka = (nka.map nI, false) := by rw [upF_ne _ _ (by omega)]; exact eka
        refine callVT_ok (ci := 7) (T := TX5) (N := 3) (av := [.ref (B ka)]) (r := []) X E (s5_addTerm h3 Y S3 (i := 30) (by omega) (j := ka) (by omega) (by omega)) lkX5_addTerm mlX6_100 lmX5_addTerm lpX5_addTerm ⟨Nat.le_of_ble_eq_true rfl, Nat.le_of_ble_eq_true rfl⟩ ⟨Nat.le_of_ble_eq_true rfl, Nat.le_of_ble_eq_true rfl⟩ rfl (S3 30 (by omega)).2.1 (Nat.le_of_ble_eq_true rfl) (dk rfl) (fun h4 S4 f4 => ?_)
        rw [t3ka, upF_self, upF_up, addT_rows, show rmI 30 = 16 from rfl, addR_app, ← List.map_append] at S4
        have C4 := C3.tm Y S4 f4
        have F4 := F3.trans f4
        iterate 2 refine fst1_ok X (dk rfl) rfl ?_
        refine br_ok X (dk rfl) rfl (show ((96 : Nat) : Int) + 12 = ((108 : Nat) : Int) from rfl) (fun q => absurd q (by decide)) (fun _ => ?_)
        refine fst1_ok X (dk rfl) rfl ?_
        refine getf_ok X flX6_24 (dk rfl) C4.2.1 rfl ?_
        refine fst1_ok X (dk rfl) rfl ?_
        have t4kb : upF F 30 (addR 16 ([], false) (([i + 10] ++ nka : List Nat).map nI)) kb = (nkb.map nI, false) := by rw [upF_ne _ _ (by omega)]; exact ekb
        refine callVT_ok (ci := 7) (T := TX5) (N := 3) (av := [.ref (B kb)]) (r := []) X E (s5_addTerm h4 Y S4 (i := 30) (by omega) (j := kb) (by omega) (by omega)) lkX5_addTerm mlX6_100 lmX5_addTerm lpX5_addTerm ⟨Nat.le_of_ble_eq_true rfl, Nat.le_of_ble_eq_true rfl⟩ ⟨Nat.le_of_ble_eq_true rfl, Nat.le_of_ble_eq_true rfl⟩ rfl (S4 30 (by omega)).2.1 (Nat.le_of_ble_eq_true rfl) (dk rfl) (fun h5 S5 f5 => ?_)
        rw [t4kb, upF_self, upF_up, addT_rows, show rmI 30 = 16 from rfl, addR_app, ← List.map_append] at S5
        have C5 := C4.tm Y S5 f5
        have F5 := F4.trans f5
        iterate 2 refine fst1_ok X (dk rfl) rfl ?_
        refine br_ok X (dk rfl) rfl (show ((111 : Nat) : Int) + 12 = ((123 : Nat) : Int) from rfl) (fun q => absurd q (by decide)) (fun _ => ?_)
        refine fst1_ok X (dk rfl) rfl ?_
        refine getf_ok X flX6_24 (dk rfl) C5.2.1 rfl ?_
        refine fst1_ok X (dk rfl) rfl ?_
        have t5kg : upF F 30 (addR 16 ([], false) ((([i + 10] ++ nka) ++ nkb : List Nat).map nI)) kg = (nkg.map nI, false) := by rw [upF_ne _ _ (by omega)]; exact ekg
        refine callVT_ok (ci := 7) (T := TX5) (N := 3) (av := [.ref (B kg)]) (r := []) X E (s5_addTerm h5 Y S5 (i := 30) (by omega) (j := kg) (by omega) (by omega)) lkX5_addTerm mlX6_100 lmX5_addTerm lpX5_addTerm ⟨Nat.le_of_ble_eq_true rfl, Nat.le_of_ble_eq_true rfl⟩ ⟨Nat.le_of_ble_eq_true rfl, Nat.le_of_ble_eq_true rfl⟩ rfl (S5 30 (by omega)).2.1 (Nat.le_of_ble_eq_true rfl) (dk rfl) (fun h6 S6 f6 => ?_)
        rw [t5kg, upF_self, upF_up, addT_rows, show rmI 30 = 16 from rfl, addR_app, ← List.map_append] at S6
        have C6 := C5.tm Y S6 f6
        have F6 := F5.trans f6
        iterate 2 refine fst1_ok X (dk rfl) rfl ?_
        refine callV_ok (ci := 8) (T := TX6) (N := 14) (av := [.ref (B j)]) (r := []) X E (s6_putSpareInto h6 Y C6 (j := j) hj (zs := _) (upF_self _ _ _)) lkX6_putSpareInto mlX6_104 lmX6_putSpareInto lpX6_putSpareInto ⟨Nat.le_of_ble_eq_true rfl, Nat.le_of_ble_eq_true rfl⟩ ⟨Nat.le_of_ble_eq_true rfl, Nat.le_of_ble_eq_true rfl⟩ rfl C6.2.1 (Nat.le_of_ble_eq_true rfl) (dk rfl) ?_
        intro v h9 G
        have Gf := gvP.ap G (F6.frC C.1) (upF_fs H (i := 30) (by omega) _) O hj (((((W0).more wka).more wkb).more wkg).tw)
        have ez : (i + 10) :: (([nka, nkb, nkg] : List (List Nat)).take (pF (i + 10))).flatten = (([i + 10] ++ nka) ++ nkb) ++ nkg := by rw [hp]; simp
        have e : aHead (nI j) (nI i) (nI ka) (nI kb) (nI kg) st = giveS j ((([i + 10] ++ nka) ++ nkb) ++ nkg) (nI ((([i + 10] ++ nka) ++ nkb) ++ nkg).length) st := by
          unfold aHead
          rw [if_pos (okI_t hj (by decide)), if_pos (okI_t hka (by decide)), if_pos (okI_t hkb (by decide)), if_pos (okI_t hkg (by decide)), if_pos (okI_t hi (by decide)), xI_n (by omega), xI_n (by omega), xI_n (by omega), xI_n (by omega), xI_n (by omega), getD_of ska, getD_of skb, getD_of skg, ez]
        rw [← e] at Gf
        obtain ⟨g1, rfl, g3⟩ := Gf
        refine WRX.ret ?_
        exact reti_ok X hr hlk rfl (dk rfl) (⟨g1, rfl, g3⟩) (Nat.le_of_ble_eq_true rfl) (Nat.le_of_ble_eq_true rfl)
    · exact throwS_ok X E hl ht hlk xwX6_88 (List.mem_of_getElem? (i := 7) rfl) (dk rfl) (dk rfl) (dk rfl) (dk rfl) (dk rfl) ⟨Nat.le_of_ble_eq_true rfl, Nat.le_of_ble_eq_true rfl⟩ ⟨Nat.le_of_ble_eq_true rfl, Nat.le_of_ble_eq_true rfl⟩ (AX.two (by unfold aHead; rw [if_pos (okI_t hj (by decide)), if_pos (okI_t hka (by decide)), if_pos (okI_t hkb (by decide)), if_pos (okI_t hkg (by decide)), if_neg (by rw [okI_f (fun z => c2 (by rw [nI_8']; exact inN_lt z (by decide)))]; decide)]) ⟨rfl, rfl⟩)
set_option maxHeartbeats 32000000 in
theorem s6_put (h : AH) (hl : la.stackTraces = false) (Y : LYO B Q) {st : ST} (C0 : StC B Q P ox kn h st) (x1 x2 x3 : Int32) : CTX la D cA B0 pa yX6_put cX6_put 8 (some .int) (rmD 7 3 18) [.ref ox, .int x1, .int x2, .int x3] h (AP B Q P ox kn (aPut x1 x2 x3 st) h) (AX (aPut x1 x2 x3 st) st h) := by
  refine CTX_of (by decide +kernel) (Nat.le_of_ble_eq_true rfl) ?_
  intro p e s m args below meth c X E hr hlk hnm ht
  have dk : ∀ {pc : Nat} {q : Instr × Nat}, lkd DX6_put pc = some q → decode cX6_put pc = .ok q := lkd_ok DX6_put_ok
  obtain ⟨F, C, H, O⟩ := id C0
  iterate 2 refine fst1_ok X (dk rfl) rfl ?_
  refine callVX_ok (ci := 8) (T := TX6) (N := 14) (av := [.int x1]) (r := []) X E ht hlk (s6_termOf h hl C x1) (fun E1 h1 z => AX.one (by unfold aPut; rw [if_neg (by rw [okI_f z.2.1]; decide)]) ⟨z.1, z.2.2⟩) lkX6_termOf mlX6_69 lmX6_termOf lpX6_termOf ⟨Nat.le_of_ble_eq_true rfl, Nat.le_of_ble_eq_true rfl⟩ ⟨Nat.le_of_ble_eq_true rfl, Nat.le_of_ble_eq_true rfl⟩ rfl C.2.1 (Nat.le_of_ble_eq_true rfl) (dk rfl) ?_
  rintro _ h1 ⟨⟨j, hj, rfl, rfl⟩, eh⟩
  obtain rfl := eh.symm
  iterate 3 refine fst1_ok X (dk rfl) rfl ?_
  refine callVX_ok (ci := 8) (T := TX6) (N := 14) (av := [.int x3]) (r := []) X E ht hlk (s6_termOf _ hl C x3) (fun E1 h1 z => AX.one (by unfold aPut; rw [if_pos (okI_t hj (by decide))]; rw [if_neg (by rw [okI_f z.2.1]; decide)]) ⟨z.1, z.2.2⟩) lkX6_termOf mlX6_69 lmX6_termOf lpX6_termOf ⟨Nat.le_of_ble_eq_true rfl, Nat.le_of_ble_eq_true rfl⟩ ⟨Nat.le_of_ble_eq_true rfl, Nat.le_of_ble_eq_true rfl⟩ rfl C.2.1 (Nat.le_of_ble_eq_true rfl) (dk rfl) ?_
  rintro _ h1 ⟨⟨i, hi, rfl, rfl⟩, eh⟩
  obtain rfl := eh.symm
  iterate 2 refine fst1_ok X (dk rfl) rfl ?_
  refine callSX_ok (av := [.int x2]) (r := []) X E ht hlk (s6_needName _ hl x2) (fun E1 h1 z => AX.two (by unfold aPut; rw [if_pos (okI_t hj (by decide)), if_pos (okI_t hi (by decide))]; rw [if_neg (by rw [okI_f z.2.1]; decide)]) ⟨z.1, z.2.2⟩) lkX6_needName mlX6_73 lsX6_needName ⟨Nat.le_of_ble_eq_true rfl, Nat.le_of_ble_eq_true rfl⟩ ⟨Nat.le_of_ble_eq_true rfl, Nat.le_of_ble_eq_true rfl⟩ (Nat.le_of_ble_eq_true rfl) (dk rfl) ?_
  rintro _ h1 ⟨⟨k, hk, rfl, rfl⟩, eh⟩
  obtain rfl := eh.symm
  obtain ⟨nj, sj, ej, tj, wj, lj⟩ := H.slot O hj
  obtain ⟨ni, si, ei, ti, wi, li⟩ := H.slot O hi
  iterate 2 refine fst1_ok X (dk rfl) rfl ?_
  refine callVR_ok (ci := 7) (T := TX5) (N := 3) (av := [vI k]) (r := []) X E (s5_placesOf _ C.1 (i := j) (by omega) tj (x := k) (by omega)) lkX5_placesOf mlX6_129 lmX5_placesOf lpX5_placesOf ⟨Nat.le_of_ble_eq_true rfl, Nat.le_of_ble_eq_true rfl⟩ ⟨Nat.le_of_ble_eq_true rfl, Nat.le_of_ble_eq_true rfl⟩ rfl ⟨_, (C.1 j (by omega)).2.1⟩ (Nat.le_of_ble_eq_true rfl) (dk rfl) ?_
  rintro _ rfl
  iterate 2 refine fst1_ok X (dk rfl) rfl ?_
  refine getf_ok X flX6_24 (dk rfl) C.2.1 rfl ?_
  refine callVT_ok (ci := 7) (T := TX5) (N := 3) (av := []) (r := []) X E (s5_empty _ Y C.1 (i := 30) (by omega)) lkX5_empty mlX6_94 lmX5_empty lpX5_empty ⟨Nat.le_of_ble_eq_true rfl, Nat.le_of_ble_eq_true rfl⟩ ⟨Nat.le_of_ble_eq_true rfl, Nat.le_of_ble_eq_true rfl⟩ rfl (C.1 30 (by omega)).2.1 (Nat.le_of_ble_eq_true rfl) (dk rfl) (fun h2 S2 f2 => ?_)
  have aor : AO (nm8.set k ni) := AO_set nm8_AO ⟨wi, li⟩ k
  have ewh : aPut (nI j) (nI k) (nI i) st = giveS j (usedL (nm8.set k ni) nj) (nI (oftenN nj k)) st := by
    unfold aPut
    rw [if_pos (okI_t hj (by decide)), if_pos (okI_t hi (by decide)), if_pos (okI_t hk (by decide)), xI_n (by omega), xI_n (by omega), xI_n (by omega), getD_of sj, getD_of si]
  have loop : ∀ (d q : Nat) (t : TC) (h1 : AH), d = nj.length - q → q ≤ nj.length → TS B Q h1 (upF F 30 t) → FrT B Q h h1 → addR 16 t ((usedL (nm8.set k ni) (nj.drop q)).map nI) = addR 16 ([], false) ((usedL (nm8.set k ni) nj).map nI) → ∀ l : List (Nat × Value), lsel l [7, 6, 5, 4, 2, 0] = [(7, vI q), (6, vI (oftenN nj k)), (5, .ref (B i)), (4, .ref (B j)), (2, vI k), (0, .ref ox)] → WRX p la e (rmD 7 3 18) s m args below meth c D cA B0 8 (AP B Q P ox kn (aPut (nI j) (nI k) (nI i) st) h) (AX (aPut (nI j) (nI k) (nI i) st) st h) 36 l [] h1 (0 + 1 + 1 + 1) (0 + 6 + 6 + 6) := by
    intro d
    induction d with
    | zero =>
      intro q t h1 hd hq S1 f1 eU l hl
      have hq2 : q = nj.length := by omega
      rw [hq2, List.drop_length] at eU
      have e2 : t = addR 16 ([], false) ((usedL (nm8.set k ni) nj).map nI) := eU
      have C1 := C.tm Y S1 f1
      refine WS.sel [7, 6, 5, 4, 2, 0] hl ?_
      iterate 2 refine fst1_ok X (dk rfl) rfl ?_
      refine callVR_ok (ci := 7) (T := TX5) (N := 3) (av := []) (r := [vI q]) X E (s5_length h1 S1 (i := j) (by omega)) lkX5_length mlX6_76 lmX5_length lpX5_length ⟨Nat.le_of_ble_eq_true rfl, Nat.le_of_ble_eq_true rfl⟩ ⟨Nat.le_of_ble_eq_true rfl, Nat.le_of_ble_eq_true rfl⟩ rfl ⟨_, (S1 j (by omega)).2.1⟩ (Nat.le_of_ble_eq_true rfl) (dk rfl) ?_
      rintro _ rfl
      rw [upF_ne _ _ (by omega), tj.len]
      refine br_ok X (dk rfl) rfl (show ((43 : Nat) : Int) + 46 = ((89 : Nat) : Int) from rfl) (fun _ => ?_) (fun q => absurd (by rw [hq2]; exact Int32.le_refl _) q)
      iterate 2 refine fst1_ok X (dk rfl) rfl ?_
      refine callV_ok (ci := 8) (T := TX6) (N := 14) (av := [.ref (B j)]) (r := []) X E (s6_putSpareInto h1 Y C1 (j := j) hj (zs := usedL (nm8.set k ni) nj) (by rw [upF_self]; exact e2)) lkX6_putSpareInto mlX6_104 lmX6_putSpareInto lpX6_putSpareInto ⟨Nat.le_of_ble_eq_true rfl, Nat.le_of_ble_eq_true rfl⟩ ⟨Nat.le_of_ble_eq_true rfl, Nat.le_of_ble_eq_true rfl⟩ rfl C1.2.1 (Nat.le_of_ble_eq_true rfl) (dk rfl) ?_
      rintro v h3 ⟨gf, ⟨g1, rfl, g3⟩ | ⟨g1, rfl, g3⟩⟩
      · refine fst1_ok X (dk rfl) rfl ?_
        refine br_ok X (dk rfl) rfl (show ((97 : Nat) : Int) + 8 = ((105 : Nat) : Int) from rfl) (fun q => absurd rfl q) (fun _ => ?_)
        refine fst1_ok X (dk rfl) rfl ?_
        refine br_ok X (dk rfl) rfl (show ((102 : Nat) : Int) + 5 = ((107 : Nat) : Int) from rfl) (fun _ => ?_) (fun q => absurd trivial q)
        have ee : aPut (nI j) (nI k) (nI i) st = noS st := by rw [ewh]; exact if_pos g1
        rw [ee]
        refine WRX.ret ?_
        exact reti_ok X hr hlk rfl (dk rfl) (⟨rfl, rfl, ⟨_, g3, (upF_fs H (by omega) _).cnt _ _, O.cnt _ _⟩, (f1.frC C.1).trans gf⟩) (Nat.le_of_ble_eq_true rfl) (Nat.le_of_ble_eq_true rfl)
      · refine fst1_ok X (dk rfl) rfl ?_
        refine br_ok X (dk rfl) rfl (show ((97 : Nat) : Int) + 8 = ((105 : Nat) : Int) from rfl) (fun _ => ?_) (fun q => absurd (nI_m9 (by omega)) q)
        refine fst1_ok X (dk rfl) rfl ?_
        have ee : aPut (nI j) (nI k) (nI i) st = slS st (st.1.set j (usedL (nm8.set k ni) nj)) (nI (oftenN nj k)) := by rw [ewh]; exact if_neg (by omega)
        rw [ee]
        refine WRX.ret ?_
        exact reti_ok X hr hlk rfl (dk rfl) (⟨rfl, rfl, ⟨_, g3, (upF_fs H (i := 30) (by omega) _).set hj O.1 _ _ _, O.set ⟨TW_used aor wj, g1⟩ j _ _⟩, (f1.frC C.1).trans gf⟩) (Nat.le_of_ble_eq_true rfl) (Nat.le_of_ble_eq_true rfl)
    | succ d ih =>
      intro q t h1 hd hq S1 f1 eU l hl
      obtain ⟨y, hy⟩ : ∃ y, nj[q]? = some y := ⟨_, List.getElem?_eq_getElem (by omega)⟩
      have hok := tj.2 y (List.mem_of_getElem? hy)
      have hyx := hok.lt
      have C1 := C.tm Y S1 f1
      have tj1 : TN (upF F 30 t j) nj := by rw [upF_ne _ _ (by omega)]; exact tj
      rw [drop_cons hy, usedL_cons, List.map_append, ← addR_app, useL_nm hk hok] at eU
      refine WS.sel [7, 6, 5, 4, 2, 0] hl ?_
      iterate 2 refine fst1_ok X (dk rfl) rfl ?_
      refine callVR_ok (ci := 7) (T := TX5) (N := 3) (av := []) (r := [vI q]) X E (s5_length h1 S1 (i := j) (by omega)) lkX5_length mlX6_76 lmX5_length lpX5_length ⟨Nat.le_of_ble_eq_true rfl, Nat.le_of_ble_eq_true rfl⟩ ⟨Nat.le_of_ble_eq_true rfl, Nat.le_of_ble_eq_true rfl⟩ rfl ⟨_, (S1 j (by omega)).2.1⟩ (Nat.le_of_ble_eq_true rfl) (dk rfl) ?_
      rintro _ rfl
      rw [upF_ne _ _ (by omega), tj.len]
      refine br_ok X (dk rfl) rfl (show ((43 : Nat) : Int) + 46 = ((89 : Nat) : Int) from rfl) (fun q => absurd q (nI_ge (by omega) (by omega))) (fun _ => ?_)
      iterate 2 refine fst1_ok X (dk rfl) rfl ?_
      refine callVR_ok (ci := 7) (T := TX5) (N := 3) (av := [vI q]) (r := []) X E (s5_letterAt h1 S1 (i := j) (by omega) (nI q)) lkX5_letterAt mlX6_132 lmX5_letterAt lpX5_letterAt ⟨Nat.le_of_ble_eq_true rfl, Nat.le_of_ble_eq_true rfl⟩ ⟨Nat.le_of_ble_eq_true rfl, Nat.le_of_ble_eq_true rfl⟩ rfl ⟨_, (S1 j (by omega)).2.1⟩ (Nat.le_of_ble_eq_true rfl) (dk rfl) ?_
      rintro _ rfl
      rw [tj1.lt hy (by omega)]
      refine fst1_ok X (dk rfl) rfl ?_
      have f3 : Value.int (nI q + Int32.ofInt 1) = vI (q + 1) := congrArg Value.int (by rw [nI_1', nI_add])
      have nxt : ∀ (h2 : AH) (t2 : TC), TS B Q h2 (upF F 30 t2) → FrT B Q h1 h2 → addR 16 t2 ((usedL (nm8.set k ni) (nj.drop (q + 1))).map nI) = addR 16 ([], false) ((usedL (nm8.set k ni) nj).map nI) → ∀ l : List (Nat × Value), lsel l [7, 6, 5, 4, 2, 0] = [(7, vI q), (6, vI (oftenN nj k)), (5, .ref (B i)), (4, .ref (B j)), (2, vI k), (0, .ref ox)] → WRX p la e (rmD 7 3 18) s m args below meth c D cA B0 8 (AP B Q P ox kn (aPut (nI j) (nI k) (nI i) st) h) (AX (aPut (nI j) (nI k) (nI i) st) st h) 83 l [] h2 (0 + 1 + 1 + 1) (0 + 6 + 6 + 6) := by
        intro h2 t2 S2 f2 e2 l hl
        refine WS.sel [7, 6, 5, 4, 2, 0] hl ?_
        refine fst1_ok X (dk rfl) rfl ?_
        refine br_ok X (dk rfl) rfl (show ((86 : Nat) : Int) + (-50) = ((36 : Nat) : Int) from rfl) (fun _ => ?_) (fun q => absurd trivial q)
        refine WS.sel (l' := [(7, vI (q + 1)), (6, vI (oftenN nj k)), (5, .ref (B i)), (4, .ref (B j)), (2, vI k), (0, .ref ox)]) [7, 6, 5, 4, 2, 0] (by rw [← f3]; rfl) ?_
        exact ih (q + 1) t2 h2 (by omega) (by omega) S2 (f1.trans f2) e2 _ rfl
      by_cases hyk : y = k
      · rw [if_pos hyk] at eU
        refine br_ok X (dk rfl) rfl (show ((54 : Nat) : Int) + 15 = ((69 : Nat) : Int) from rfl) (fun q => absurd (by rw [hyk]) q) (fun _ => ?_)
        refine fst1_ok X (dk rfl) rfl ?_
        refine getf_ok X flX6_24 (dk rfl) C1.2.1 rfl ?_
        refine fst1_ok X (dk rfl) rfl ?_
        have t1i : upF F 30 t i = (ni.map nI, false) := by rw [upF_ne _ _ (by omega)]; exact ei
        refine callVT_ok (ci := 7) (T := TX5) (N := 3) (av := [.ref (B i)]) (r := []) X E (s5_addTerm h1 Y S1 (i := 30) (by omega) (j := i) (by omega) (by omega)) lkX5_addTerm mlX6_100 lmX5_addTerm lpX5_addTerm ⟨Nat.le_of_ble_eq_true rfl, Nat.le_of_ble_eq_true rfl⟩ ⟨Nat.le_of_ble_eq_true rfl, Nat.le_of_ble_eq_true rfl⟩ rfl (S1 30 (by omega)).2.1 (Nat.le_of_ble_eq_true rfl) (dk rfl) (fun h2 S2 f2 => ?_)
        rw [t1i, upF_self, upF_up, addT_rows, show rmI 30 = 16 from rfl] at S2
        refine br_ok X (dk rfl) rfl (show ((66 : Nat) : Int) + 17 = ((83 : Nat) : Int) from rfl) (fun _ => ?_) (fun q => absurd trivial q)
        exact nxt h2 _ S2 f2 eU _ rfl
      · rw [if_neg hyk] at eU
        refine br_ok X (dk rfl) rfl (show ((54 : Nat) : Int) + 15 = ((69 : Nat) : Int) from rfl) (fun _ => ?_) (fun q => absurd (fun z => hyk (nI_inj (by omega) (by omega) z)) q)
        refine fst1_ok X (dk rfl) rfl ?_
        refine getf_ok X flX6_24 (dk rfl) C1.2.1 rfl ?_
        iterate 2 refine fst1_ok X (dk rfl) rfl ?_
        refine callVR_ok (ci := 7) (T := TX5) (N := 3) (av := [vI q]) (r := [.ref (B 30)]) X E (s5_letterAt h1 S1 (i := j) (by omega) (nI q)) lkX5_letterAt mlX6_132 lmX5_letterAt lpX5_letterAt ⟨Nat.le_of_ble_eq_true rfl, Nat.le_of_ble_eq_true rfl⟩ ⟨Nat.le_of_ble_eq_true rfl, Nat.le_of_ble_eq_true rfl⟩ rfl ⟨_, (S1 j (by omega)).2.1⟩ (Nat.le_of_ble_eq_true rfl) (dk rfl) ?_
        rintro _ rfl
        rw [tj1.lt hy (by omega)]
        refine callVT_ok (ci := 7) (T := TX5) (N := 3) (av := [vI y]) (r := []) X E (s5_add h1 Y S1 (i := 30) (by omega) (nI y)) lkX5_add mlX6_97 lmX5_add lpX5_add ⟨Nat.le_of_ble_eq_true rfl, Nat.le_of_ble_eq_true rfl⟩ ⟨Nat.le_of_ble_eq_true rfl, Nat.le_of_ble_eq_true rfl⟩ rfl (S1 30 (by omega)).2.1 (Nat.le_of_ble_eq_true rfl) (dk rfl) (fun h2 S2 f2 => ?_)
        rw [upF_self, upF_up, show rmI 30 = 16 from rfl] at S2
        exact nxt h2 _ S2 f2 eU _ rfl
  iterate 2 refine fst1_ok X (dk rfl) rfl ?_
  exact loop _ 0 ([], false) h2 rfl (Nat.zero_le _) S2 f2 (by rw [List.drop_zero]) _ rfl
set_option maxHeartbeats 32000000 in
theorem s6_shift (h : AH) (hl : la.stackTraces = false) (Y : LYO B Q) {st : ST} (C0 : StC B Q P ox kn h st) (x1 x2 : Int32) : CTX la D cA B0 pa yX6_shift cX6_shift 6 (some .int) (rmD 7 2 12) [.ref ox, .int x1, .int x2] h (AP B Q P ox kn (aShift x1 x2 st) h) (AX (aShift x1 x2 st) st h) := by
  refine CTX_of (by decide +kernel) (Nat.le_of_ble_eq_true rfl) ?_
  intro p e s m args below meth c X E hr hlk hnm ht
  have dk : ∀ {pc : Nat} {q : Instr × Nat}, lkd DX6_shift pc = some q → decode cX6_shift pc = .ok q := lkd_ok DX6_shift_ok
  obtain ⟨F, C, H, O⟩ := id C0
  iterate 2 refine fst1_ok X (dk rfl) rfl ?_
  refine callVX_ok (ci := 8) (T := TX6) (N := 14) (av := [.int x1]) (r := []) X E ht hlk (s6_termOf h hl C x1) (fun E1 h1 z => AX.one (by unfold aShift; rw [if_neg (by rw [okI_f z.2.1]; decide)]) ⟨z.1, z.2.2⟩) lkX6_termOf mlX6_69 lmX6_termOf lpX6_termOf ⟨Nat.le_of_ble_eq_true rfl, Nat.le_of_ble_eq_true rfl⟩ ⟨Nat.le_of_ble_eq_true rfl, Nat.le_of_ble_eq_true rfl⟩ rfl C.2.1 (Nat.le_of_ble_eq_true rfl) (dk rfl) ?_
  rintro _ h1 ⟨⟨j, hj, rfl, rfl⟩, eh⟩
  obtain rfl := eh.symm
  obtain ⟨nj, sj, ej, tj, wj, lj⟩ := H.slot O hj
  iterate 2 refine fst1_ok X (dk rfl) rfl ?_
  refine br_ok X (dk rfl) rfl (show ((7 : Nat) : Int) + 9 = ((16 : Nat) : Int) from rfl) (fun c1 => ?_) (fun c1 => ?_)
  · exact throwS_ok X E hl ht hlk xwX6_88 (List.mem_of_getElem? (i := 0) rfl) (dk rfl) (dk rfl) (dk rfl) (dk rfl) (dk rfl) ⟨Nat.le_of_ble_eq_true rfl, Nat.le_of_ble_eq_true rfl⟩ ⟨Nat.le_of_ble_eq_true rfl, Nat.le_of_ble_eq_true rfl⟩ (AX.two (by unfold aShift; rw [if_pos (okI_t hj (by decide)), if_neg (by rw [okI_f (fun z => inN_pos z (by decide) c1)]; decide)]) ⟨rfl, rfl⟩)
  · iterate 2 refine fst1_ok X (dk rfl) rfl ?_
    refine br_ok X (dk rfl) rfl (show ((13 : Nat) : Int) + 13 = ((26 : Nat) : Int) from rfl) (fun c2 => ?_) (fun c2 => ?_)
    · obtain ⟨k, hk, rfl⟩ := inN_of (N := 8) (by decide) c1 (Int32.not_le.mpr (by rw [← nI_8']; exact c2))
      refine fst1_ok X (dk rfl) rfl ?_
      refine getf_ok X flX6_24 (dk rfl) C.2.1 rfl ?_
      refine callVT_ok (ci := 7) (T := TX5) (N := 3) (av := []) (r := []) X E (s5_empty _ Y C.1 (i := 30) (by omega)) lkX5_empty mlX6_94 lmX5_empty lpX5_empty ⟨Nat.le_of_ble_eq_true rfl, Nat.le_of_ble_eq_true rfl⟩ ⟨Nat.le_of_ble_eq_true rfl, Nat.le_of_ble_eq_true rfl⟩ rfl (C.1 30 (by omega)).2.1 (Nat.le_of_ble_eq_true rfl) (dk rfl) (fun h2 S2 f2 => ?_)
      have loop : ∀ (d q : Nat) (t : TC) (h1 : AH), d = nj.length - q → q ≤ nj.length → TS B Q h1 (upF F 30 t) → FrT B Q h h1 → addR 16 t (((nj.drop q).map (shL k)).map nI) = addR 16 ([], false) ((nj.map (shL k)).map nI) → ∀ l : List (Nat × Value), lsel l [4, 3, 2, 0] = [(4, vI q), (3, .ref (B j)), (2, vI k), (0, .ref ox)] → WRX p la e (rmD 7 2 12) s m args below meth c D cA B0 6 (AP B Q P ox kn (aShift (nI j) (nI k) st) h) (AX (aShift (nI j) (nI k) st) st h) 36 l [] h1 (0 + 1) (0 + 6) := by
        intro d
        induction d with
        | zero =>
          intro q t h1 hd hq S1 f1 eU l hl
          have hq2 : q = nj.length := by omega
          rw [hq2, List.drop_length] at eU
          have e2 : t = addR 16 ([], false) ((nj.map (shL k)).map nI) := eU
          rw [addR_short (by rw [List.length_map]; exact lj)] at e2
          rw [e2] at S1
          have C1 := C.tm Y S1 f1
          refine WS.sel [4, 3, 2, 0] hl ?_
          iterate 2 refine fst1_ok X (dk rfl) rfl ?_
          refine callVR_ok (ci := 7) (T := TX5) (N := 3) (av := []) (r := [vI q]) X E (s5_length h1 S1 (i := j) (by omega)) lkX5_length mlX6_76 lmX5_length lpX5_length ⟨Nat.le_of_ble_eq_true rfl, Nat.le_of_ble_eq_true rfl⟩ ⟨Nat.le_of_ble_eq_true rfl, Nat.le_of_ble_eq_true rfl⟩ rfl ⟨_, (S1 j (by omega)).2.1⟩ (Nat.le_of_ble_eq_true rfl) (dk rfl) ?_
          rintro _ rfl
          rw [upF_ne _ _ (by omega), tj.len]
          refine br_ok X (dk rfl) rfl (show ((42 : Nat) : Int) + 44 = ((86 : Nat) : Int) from rfl) (fun _ => ?_) (fun q => absurd (by rw [hq2]; exact Int32.le_refl _) q)
          iterate 2 refine fst1_ok X (dk rfl) rfl ?_
          refine getf_ok X flX6_24 (dk rfl) C1.2.1 rfl ?_
          have hrm : rmI j = 16 := if_pos (by omega)
          refine callVT_ok (ci := 7) (T := TX5) (N := 3) (av := [.ref (B 30)]) (r := []) X E (s5_becomeAs h1 Y S1 (i := j) (by omega) (j := 30) (by omega) (by rw [upF_self, hrm, List.length_map, List.length_map]; exact lj)) lkX5_becomeAs mlX6_108 lmX5_becomeAs lpX5_becomeAs ⟨Nat.le_of_ble_eq_true rfl, Nat.le_of_ble_eq_true rfl⟩ ⟨Nat.le_of_ble_eq_true rfl, Nat.le_of_ble_eq_true rfl⟩ rfl (S1 j (by omega)).2.1 (Nat.le_of_ble_eq_true rfl) (dk rfl) (fun h3 S3 f3 => ?_)
          rw [upF_self] at S3
          have C3 := C1.tm Y S3 f3
          have t3 : TN (upF (upF F 30 ((nj.map (shL k)).map nI, false)) j ((nj.map (shL k)).map nI, false) j) (nj.map (shL k)) := by rw [upF_self]; exact ⟨rfl, (TW.shift wj k).2⟩
          iterate 2 refine fst1_ok X (dk rfl) rfl ?_
          refine callVR_ok (ci := 7) (T := TX5) (N := 3) (av := []) (r := [.ref ox]) X E (s5_allNames h3 S3 (i := j) (by omega) t3) lkX5_allNames mlX6_140 lmX5_allNames lpX5_allNames ⟨Nat.le_of_ble_eq_true rfl, Nat.le_of_ble_eq_true rfl⟩ ⟨Nat.le_of_ble_eq_true rfl, Nat.le_of_ble_eq_true rfl⟩ rfl ⟨_, (S3 j (by omega)).2.1⟩ (Nat.le_of_ble_eq_true rfl) (dk rfl) ?_
          rintro _ rfl
          refine callS_ok (av := [vI (namesN (nj.map (shL k)))]) (r := [.ref ox]) X E (c_bitCount h3 _) lkJ6_bitCount_0f7a4 mlX6_143 lsJ6_bitCount_0f7a4 ⟨Nat.le_of_ble_eq_true rfl, Nat.le_of_ble_eq_true rfl⟩ ⟨Nat.le_of_ble_eq_true rfl, Nat.le_of_ble_eq_true rfl⟩ (Nat.le_of_ble_eq_true rfl) (dk rfl) ?_
          rintro v h4 ⟨rfl, eh⟩
          obtain rfl := eh.symm
          refine callV_ok (ci := 8) (T := TX6) (N := 14) (av := [.int (bcF (nI (namesN (nj.map (shL k)))))]) (r := []) X E (s6_did _ C3 _) lkX6_did mlX6_80 lmX6_did lpX6_did ⟨Nat.le_of_ble_eq_true rfl, Nat.le_of_ble_eq_true rfl⟩ ⟨Nat.le_of_ble_eq_true rfl, Nat.le_of_ble_eq_true rfl⟩ rfl C3.2.1 (Nat.le_of_ble_eq_true rfl) (dk rfl) ?_
          rintro _ h5 ⟨rfl, C5, f5⟩
          have e : aShift (nI j) (nI k) st = slS st (st.1.set j (nj.map (shL k))) (bcF (nI (namesN (nj.map (shL k))))) := by
            unfold aShift
            rw [if_pos (okI_t hj (by decide)), if_pos (okI_t hk (by decide)), xI_n (by omega), xI_n (by omega), getD_of sj]
          rw [e]
          refine WRX.ret ?_
          exact reti_ok X hr hlk rfl (dk rfl) (⟨rfl, rfl, ⟨_, C5, (upF_fs H (i := 30) (by omega) _).set hj O.1 _ _ _, O.set ⟨TW.shift wj k, by rw [List.length_map]; exact lj⟩ j _ _⟩, ((f1.frC C.1).trans (f3.frC S1)).trans f5⟩) (Nat.le_of_ble_eq_true rfl) (Nat.le_of_ble_eq_true rfl)
        | succ d ih =>
          intro q t h1 hd hq S1 f1 eU l hl
          obtain ⟨y, hy⟩ : ∃ y, nj[q]? = some y := ⟨_, List.getElem?_eq_getElem (by omega)⟩
          have hok := tj.2 y (List.mem_of_getElem? hy)
          have hyx := hok.lt
          have C1 := C.tm Y S1 f1
          have tj1 : TN (upF F 30 t j) nj := by rw [upF_ne _ _ (by omega)]; exact tj
          rw [drop_cons hy, List.map_cons, List.map_cons] at eU
          refine WS.sel [4, 3, 2, 0] hl ?_
          iterate 2 refine fst1_ok X (dk rfl) rfl ?_
          refine callVR_ok (ci := 7) (T := TX5) (N := 3) (av := []) (r := [vI q]) X E (s5_length h1 S1 (i := j) (by omega)) lkX5_length mlX6_76 lmX5_length lpX5_length ⟨Nat.le_of_ble_eq_true rfl, Nat.le_of_ble_eq_true rfl⟩ ⟨Nat.le_of_ble_eq_true rfl, Nat.le_of_ble_eq_true rfl⟩ rfl ⟨_, (S1 j (by omega)).2.1⟩ (Nat.le_of_ble_eq_true rfl) (dk rfl) ?_
          rintro _ rfl
          rw [upF_ne _ _ (by omega), tj.len]
          refine br_ok X (dk rfl) rfl (show ((42 : Nat) : Int) + 44 = ((86 : Nat) : Int) from rfl) (fun q => absurd q (nI_ge (by omega) (by omega))) (fun _ => ?_)
          iterate 2 refine fst1_ok X (dk rfl) rfl ?_
          refine callVR_ok (ci := 7) (T := TX5) (N := 3) (av := [vI q]) (r := []) X E (s5_letterAt h1 S1 (i := j) (by omega) (nI q)) lkX5_letterAt mlX6_132 lmX5_letterAt lpX5_letterAt ⟨Nat.le_of_ble_eq_true rfl, Nat.le_of_ble_eq_true rfl⟩ ⟨Nat.le_of_ble_eq_true rfl, Nat.le_of_ble_eq_true rfl⟩ rfl ⟨_, (S1 j (by omega)).2.1⟩ (Nat.le_of_ble_eq_true rfl) (dk rfl) ?_
          rintro _ rfl
          rw [tj1.lt hy (by omega)]
          iterate 2 refine fst1_ok X (dk rfl) rfl ?_
          refine getf_ok X flX6_24 (dk rfl) C1.2.1 rfl ?_
          refine fst1_ok X (dk rfl) rfl ?_
          refine callSR_ok (av := [vI y]) (r := [.ref (B 30)]) X E (s6_isName h1 (x := y) (by omega)) lkX6_isName mlX6_137 lsX6_isName ⟨Nat.le_of_ble_eq_true rfl, Nat.le_of_ble_eq_true rfl⟩ ⟨Nat.le_of_ble_eq_true rfl, Nat.le_of_ble_eq_true rfl⟩ (Nat.le_of_ble_eq_true rfl) (dk rfl) ?_
          rintro _ rfl
          have f3 : Value.int (nI q + Int32.ofInt 1) = vI (q + 1) := congrArg Value.int (by rw [nI_1', nI_add])
          have nxt : ∀ (z : Nat), z = shL k y → ∀ l : List (Nat × Value), lsel l [4, 3, 2, 0] = [(4, vI q), (3, .ref (B j)), (2, vI k), (0, .ref ox)] → WRX p la e (rmD 7 2 12) s m args below meth c D cA B0 6 (AP B Q P ox kn (aShift (nI j) (nI k) st) h) (AX (aShift (nI j) (nI k) st) st h) 77 l [vI z, .ref (B 30)] h1 (0 + 1) (0 + 6) := by
            intro z hz l hl
            refine WS.sel [4, 3, 2, 0] hl ?_
            refine callVT_ok (ci := 7) (T := TX5) (N := 3) (av := [vI z]) (r := []) X E (s5_add h1 Y S1 (i := 30) (by omega) (nI z)) lkX5_add mlX6_97 lmX5_add lpX5_add ⟨Nat.le_of_ble_eq_true rfl, Nat.le_of_ble_eq_true rfl⟩ ⟨Nat.le_of_ble_eq_true rfl, Nat.le_of_ble_eq_true rfl⟩ rfl (S1 30 (by omega)).2.1 (Nat.le_of_ble_eq_true rfl) (dk rfl) (fun h2 S2 f2 => ?_)
            rw [upF_self, upF_up, show rmI 30 = 16 from rfl] at S2
            refine fst1_ok X (dk rfl) rfl ?_
            refine br_ok X (dk rfl) rfl (show ((83 : Nat) : Int) + (-47) = ((36 : Nat) : Int) from rfl) (fun _ => ?_) (fun q => absurd trivial q)
            refine WS.sel (l' := [(4, vI (q + 1)), (3, .ref (B j)), (2, vI k), (0, .ref ox)]) [4, 3, 2, 0] (by rw [← f3]; rfl) ?_
            exact ih (q + 1) _ h2 (by omega) (by omega) S2 (f1.trans f2) (by rw [hz]; exact eU) _ rfl
          by_cases h8 : y < 8
          · rw [decide_eq_true h8]
            refine br_ok X (dk rfl) rfl (show ((62 : Nat) : Int) + 13 = ((75 : Nat) : Int) from rfl) (fun q => absurd q bI_t) (fun _ => ?_)
            iterate 5 refine fst1_ok X (dk rfl) rfl ?_
            rw [nI_add, rem8 (by omega)]
            refine br_ok X (dk rfl) rfl (show ((72 : Nat) : Int) + 5 = ((77 : Nat) : Int) from rfl) (fun _ => ?_) (fun q => absurd trivial q)
            exact nxt _ (by unfold shL; rw [if_pos (by omega)]) _ rfl
          · rw [decide_eq_false h8]
            refine br_ok X (dk rfl) rfl (show ((62 : Nat) : Int) + 13 = ((75 : Nat) : Int) from rfl) (fun _ => ?_) (fun q => absurd bI_f' q)
            refine fst1_ok X (dk rfl) rfl ?_
            exact nxt _ (by unfold shL; rw [if_neg (by rcases hok with z | z <;> omega)]) _ rfl
      iterate 2 refine fst1_ok X (dk rfl) rfl ?_
      exact loop _ 0 ([], false) h2 rfl (Nat.zero_le _) S2 f2 (by rw [List.drop_zero]) _ rfl
    · exact throwS_ok X E hl ht hlk xwX6_88 (List.mem_of_getElem? (i := 0) rfl) (dk rfl) (dk rfl) (dk rfl) (dk rfl) (dk rfl) ⟨Nat.le_of_ble_eq_true rfl, Nat.le_of_ble_eq_true rfl⟩ ⟨Nat.le_of_ble_eq_true rfl, Nat.le_of_ble_eq_true rfl⟩ (AX.two (by unfold aShift; rw [if_pos (okI_t hj (by decide)), if_neg (by rw [okI_f (fun z => c2 (by rw [nI_8']; exact inN_lt z (by decide)))]; decide)]) ⟨rfl, rfl⟩)
end S11
end Uc11acts4
section Uc12match
/-! the class, strongly: one term matched onto another one (printed by wip/p20/genT2.py) -/
theorem ltX_nil (x : Int32) : ltX [] x = (Int8.ofInt (-9)).toInt32 := by
  unfold ltX
  split
  · rfl
  · rfl
/-- eight terms, told so far -/
def mtG (told : List (Option (List Nat))) (n : Nat) : TC := match told.getD n none with
  | some t => (t.map nI, false)
  | none => ([], false)
theorem mtG_set {told : List (Option (List Nat))} {x : Nat} (hx : x < told.length) (t : List Nat) (n : Nat) : mtG (told.set x (some t)) n = if n = x then (t.map nI, false) else mtG told n := by
  unfold mtG
  rw [List.getD_eq_getElem?_getD, List.getD_eq_getElem?_getD]
  by_cases e : n = x
  · subst e
    rw [List.getElem?_set_self hx, if_pos rfl]
    rfl
  · rw [List.getElem?_set_ne (Ne.symm e), if_neg e]
theorem upK_congr {F : Nat → TC} {f : Nat} {G G' : Nat → TC} {k : Nat} (h : ∀ n, n < k → G n = G' n) : upK F f G k = upK F f G' k := by
  funext j
  unfold upK
  split
  · rename_i hj
    exact h _ (by omega)
  · rfl
theorem upK_one {F : Nat → TC} {f x : Nat} {G : Nat → TC} (hx : x < 8) (c : TC) : upF (upK F f G 8) (f + x) c = upK F f (fun n => if n = x then c else G n) 8 := by
  funext j
  unfold upF upK
  by_cases e : j = f + x
  · subst e
    rw [if_pos rfl, if_pos (by omega), Nat.add_sub_cancel_left]
    exact (if_pos rfl).symm
  · rw [if_neg e]
    by_cases h : f ≤ j ∧ j < f + 8
    · rw [if_pos h, if_pos h]
      exact (if_neg (by omega)).symm
    · rw [if_neg h, if_neg h]
theorem mtG_none (n : Nat) : mtG (List.replicate 8 none) n = ([], false) := by
  unfold mtG
  rw [List.getD_eq_getElem?_getD, List.getElem?_replicate]
  split <;> rename_i h <;> first | rfl | skip
  all_goals (split at h <;> simp at h)
theorem mF_out {onto : List Nat} {y b : Nat} {r : List Nat} {told : List (Option (List Nat))} (h : onto.length ≤ b) : matchF onto (y :: r) b told = none := by
  unfold matchF
  rw [if_pos h]
theorem mF_hd {onto : List Nat} {y b : Nat} {r : List Nat} {told : List (Option (List Nat))} (h : ¬ onto.length ≤ b) (h10 : 10 ≤ y) : matchF onto (y :: r) b told = if onto[b]? = some y then matchF onto r (b + 1) told else none := by
  rw [matchF, if_neg h, if_pos h10]
theorem mF_no {onto : List Nat} {y b : Nat} {r : List Nat} {told : List (Option (List Nat))} (h : ¬ onto.length ≤ b) (h10 : ¬ 10 ≤ y) (e : told.getD y none = none) : matchF onto (y :: r) b told = matchF onto r (b + tl onto b) (told.set y (some (sub' onto b))) := by
  rw [matchF, if_neg h, if_neg h10, e]
theorem mF_so {onto : List Nat} {y b : Nat} {r t : List Nat} {told : List (Option (List Nat))} (h : ¬ onto.length ≤ b) (h10 : ¬ 10 ≤ y) (e : told.getD y none = some t) : matchF onto (y :: r) b told = if t = sub' onto b then matchF onto r (b + tl onto b) (told.set y (some (sub' onto b))) else none := by
  rw [matchF, if_neg h, if_neg h10, e]
theorem TW_take {t ys : List Nat} (ht : TW t) {b : Nat} (hb : endL 1 (ys.drop b) = some (tl ys b)) : ((t.drop 0).take t.length = (ys.drop b).take t.length) ↔ t = sub' ys b := by
  rw [List.drop_zero, List.take_length]
  constructor
  · intro e
    have h2 := endL_app t ((ys.drop b).drop t.length) 1 t.length ht.1
    have h3 := List.take_append_drop t.length (ys.drop b)
    rw [← e] at h3
    rw [h3, hb] at h2
    unfold sub'
    rw [Option.some.inj h2]
    exact e
  · intro e
    have hl : t.length = tl ys b := by
      have h1 := endL_le hb
      rw [e]
      unfold sub'
      rw [List.length_take]
      omega
    rw [hl]
    exact e
section S12
variable {la : Launch} {D : va_G} {cA : Nat → ClassId} {B0 pa : Nat} {B Q P : Nat → Nat} {ox : Nat} {kn : Int32} {F : Nat → TC}
set_option maxHeartbeats 4000000 in
theorem s5_endOfX (h : AH) (S : TS B Q h F) {i : Nat} (hi : i < 52) {ns : List Nat} (hN : TN (F i) ns) {p0 : Nat} (hp : ns.length ≤ p0) (hp2 : p0 < 2 ^ 20) : CT la D cA B0 pa yX5_endOf cX5_endOf 4 (some .int) (rmD 1 0 0) [.ref (B i), vI p0] h (RP (vI p0) h) := by
  refine CT_of (by decide +kernel) (Nat.le_of_ble_eq_true rfl) ?_
  intro p e s m args below meth c X E hr hlk hnm
  have dk : ∀ {pc : Nat} {q : Instr × Nat}, lkd DX5_endOf pc = some q → decode cX5_endOf pc = .ok q := lkd_ok DX5_endOf_ok
  have a2 := (S i hi).2.1
  rw [hN.len] at a2
  have hlen := (S i hi).1
  rw [hN.len] at hlen
  have hL := rmI_le i
  iterate 6 refine fst1_ok X (dk rfl) rfl ?_
  refine getf_ok X flX5_21 (dk rfl) a2 rfl ?_
  refine br_ok X (dk rfl) rfl (show ((9 : Nat) : Int) + 26 = ((35 : Nat) : Int) from rfl) (fun _ => ?_) (fun q => absurd (nI_le (by omega) (by omega)) q)
  refine fst1_ok X (dk rfl) rfl ?_
  exact reti_ok X hr hlk rfl (dk rfl) (⟨rfl, rfl⟩) (Nat.le_of_ble_eq_true rfl) (Nat.le_of_ble_eq_true rfl)
set_option maxHeartbeats 4000000 in
theorem s5_isLikeAtE (h : AH) (S : TS B Q h F) {i : Nat} (hi : i < 52) (hE : (F i).1 = []) {u p0 p2 : Nat} : CT la D cA B0 pa yX5_isLikeAt cX5_isLikeAt 7 (some .boolean) (rmD 1 0 0) [.ref (B i), vI p0, .ref (B u), vI p2] h (RP (.int (bI false)) h) := by
  refine CT_of (by decide +kernel) (Nat.le_of_ble_eq_true rfl) ?_
  intro p e s m args below meth c X E hr hlk hnm
  have dk : ∀ {pc : Nat} {q : Instr × Nat}, lkd DX5_isLikeAt pc = some q → decode cX5_isLikeAt pc = .ok q := lkd_ok DX5_isLikeAt_ok
  obtain ⟨a1, a2, xs, a3, a4, -⟩ := S i hi
  have hg := rmI_ge i
  have hL := rmI_le i
  iterate 5 refine fst1_ok X (dk rfl) rfl ?_
  refine br_ok X (dk rfl) rfl (show ((8 : Nat) : Int) + 63 = ((71 : Nat) : Int) from rfl) (fun q => absurd q (by decide)) (fun _ => ?_)
  iterate 2 refine fst1_ok X (dk rfl) rfl ?_
  refine getf_ok X flX5_15 (dk rfl) a2 rfl ?_
  refine alen7_ok X (dk rfl) a3 a4 ?_
  refine br_ok X (dk rfl) rfl (show ((18 : Nat) : Int) + 53 = ((71 : Nat) : Int) from rfl) (fun q => absurd q (by rw [nI_0']; exact nI_ge (by omega) (by omega))) (fun _ => ?_)
  iterate 4 refine fst1_ok X (dk rfl) rfl ?_
  refine callVR_ok (ci := 7) (T := TX5) (N := 3) (av := [.int (nI p0 + Int32.ofInt 0)]) (r := []) X E (s5_letterAt h S hi _) lkX5_letterAt mlX5_29 lmX5_letterAt lpX5_letterAt ⟨Nat.le_of_ble_eq_true rfl, Nat.le_of_ble_eq_true rfl⟩ ⟨Nat.le_of_ble_eq_true rfl, Nat.le_of_ble_eq_true rfl⟩ rfl ⟨_, (S i hi).2.1⟩ (Nat.le_of_ble_eq_true rfl) (dk rfl) ?_
  rintro _ rfl
  rw [hE, ltX_nil]
  iterate 3 refine fst1_ok X (dk rfl) rfl ?_
  refine br_ok X (dk rfl) rfl (show ((35 : Nat) : Int) + 16 = ((51 : Nat) : Int) from rfl) (fun _ => ?_) (fun q => absurd rfl q)
  refine fst1_ok X (dk rfl) rfl ?_
  exact reti_ok X hr hlk (bI_n false) (dk rfl) (⟨rfl, rfl⟩) (Nat.le_of_ble_eq_true rfl) (Nat.le_of_ble_eq_true rfl)
set_option maxHeartbeats 8000000 in
theorem s0_tellUntold (h : AH) (Y : LYO B Q) (S : TS B Q h F) {o f : Nat} (O : AnO B h o f) : CT la D cA B0 pa yX0_tellUntoldOfThemselves cX0_tellUntoldOfThemselves 2 none (rmD 2 0 0) [.ref o] h (TP B Q (upK F f (fun n => if (F (f + n)).1.length = 0 then (([nI n], false) : TC) else F (f + n)) 8) h) := by
  refine CT_of (by decide +kernel) (Nat.le_of_ble_eq_true rfl) ?_
  intro p e s m args below meth c X E hr hlk hnm
  have dk : ∀ {pc : Nat} {q : Instr × Nat}, lkd DX0_tellUntoldOfThemselves pc = some q → decode cX0_tellUntoldOfThemselves pc = .ok q := lkd_ok DX0_tellUntoldOfThemselves_ok
  obtain ⟨of, arr, o1, o2⟩ := id O
  have loop : ∀ (d k : Nat) (h1 : AH), d = 8 - k → k ≤ 8 → TS B Q h1 (upK F f (fun n => if (F (f + n)).1.length = 0 then (([nI n], false) : TC) else F (f + n)) k) → FrT B Q h h1 → ∀ l : List (Nat × Value), lsel l [1, 0] = [(1, vI k), (0, .ref o)] → WR p la e (rmD 2 0 0) s m args below meth c D cA B0 2 (TP B Q (upK F f (fun n => if (F (f + n)).1.length = 0 then (([nI n], false) : TC) else F (f + n)) 8) h) 2 l [] h1 0 0 := by
    intro d
    induction d with
    | zero =>
      intro k h1 hd hk S1 f1 l hl
      have hk2 : k = 8 := by omega
      subst hk2
      refine WS.sel [1, 0] hl ?_
      iterate 2 refine fst1_ok X (dk rfl) rfl ?_
      refine br_ok X (dk rfl) rfl (show ((5 : Nat) : Int) + 31 = ((36 : Nat) : Int) from rfl) (fun _ => ?_) (fun q => absurd (by rw [nI_8']; exact Int32.le_refl _) q)
      exact retv_ok X hr hlk (dk rfl) (⟨rfl, S1, f1⟩) (Nat.le_of_ble_eq_true rfl) (Nat.le_of_ble_eq_true rfl)
    | succ d ih =>
      intro k h1 hd hk S1 f1 l hl
      have p1 := f1.keep S o1 (by decide) (by decide)
      have p2 := f1.keep S o2 (by decide) (by decide)
      have eg : upK F f (fun n => if (F (f + n)).1.length = 0 then (([nI n], false) : TC) else F (f + n)) k (f + k) = F (f + k) := upK_out F f _ (by omega)
      have hlen := (S (f + k) (by omega)).1
      have hL := rmI_le (f + k)
      refine WS.sel [1, 0] hl ?_
      iterate 2 refine fst1_ok X (dk rfl) rfl ?_
      refine br_ok X (dk rfl) rfl (show ((5 : Nat) : Int) + 31 = ((36 : Nat) : Int) from rfl) (fun q => absurd q (by rw [nI_8']; exact nI_ge (by omega) (by omega))) (fun _ => ?_)
      refine fst1_ok X (dk rfl) rfl ?_
      refine getf_ok X flX0_11 (dk rfl) p1 rfl ?_
      refine fst1_ok X (dk rfl) rfl ?_
      refine aldr_ok X (Or.inl rfl) (dk rfl) p2 (by omega) (rgB_get B f (k := k) (by omega)) ?_
      refine callVR_ok (ci := 7) (T := TX5) (N := 3) (av := []) (r := []) X E (s5_length h1 S1 (i := f + k) (by omega)) lkX5_length mlX0_34 lmX5_length lpX5_length ⟨Nat.le_of_ble_eq_true rfl, Nat.le_of_ble_eq_true rfl⟩ ⟨Nat.le_of_ble_eq_true rfl, Nat.le_of_ble_eq_true rfl⟩ rfl ⟨_, (S1 (f + k) (by omega)).2.1⟩ (Nat.le_of_ble_eq_true rfl) (dk rfl) ?_
      rintro _ rfl
      rw [eg]
      have f3 : Value.int (nI k + Int32.ofInt 1) = vI (k + 1) := congrArg Value.int (by rw [nI_1', nI_add])
      have nxt : ∀ (h2 : AH), TS B Q h2 (upK F f (fun n => if (F (f + n)).1.length = 0 then (([nI n], false) : TC) else F (f + n)) (k + 1)) → FrT B Q h1 h2 → ∀ l : List (Nat × Value), lsel l [1, 0] = [(1, vI k), (0, .ref o)] → WR p la e (rmD 2 0 0) s m args below meth c D cA B0 2 (TP B Q (upK F f (fun n => if (F (f + n)).1.length = 0 then (([nI n], false) : TC) else F (f + n)) 8) h) 30 l [] h2 0 0 := by
        intro h2 S2 f2 l hl
        refine WS.sel [1, 0] hl ?_
        refine fst1_ok X (dk rfl) rfl ?_
        refine br_ok X (dk rfl) rfl (show ((33 : Nat) : Int) + (-31) = ((2 : Nat) : Int) from rfl) (fun _ => ?_) (fun q => absurd trivial q)
        refine WS.sel (l' := [(1, vI (k + 1)), (0, .ref o)]) [1, 0] (by rw [← f3]; rfl) ?_
        exact ih (k + 1) h2 (by omega) (by omega) S2 (f1.trans f2) _ rfl
      by_cases h0 : (F (f + k)).1.length = 0
      · rw [h0]
        refine br_ok X (dk rfl) rfl (show ((17 : Nat) : Int) + 13 = ((30 : Nat) : Int) from rfl) (fun q => absurd (show nI 0 = 0 by decide) q) (fun _ => ?_)
        refine fst1_ok X (dk rfl) rfl ?_
        refine getf_ok X flX0_11 (dk rfl) p1 rfl ?_
        refine fst1_ok X (dk rfl) rfl ?_
        refine aldr_ok X (Or.inl rfl) (dk rfl) p2 (by omega) (rgB_get B f (k := k) (by omega)) ?_
        refine fst1_ok X (dk rfl) rfl ?_
        refine callVT_ok (ci := 7) (T := TX5) (N := 3) (av := [vI k]) (r := []) X E (s5_becomeName h1 Y S1 (i := f + k) (by omega) (nI k)) lkX5_becomeName mlX0_20 lmX5_becomeName lpX5_becomeName ⟨Nat.le_of_ble_eq_true rfl, Nat.le_of_ble_eq_true rfl⟩ ⟨Nat.le_of_ble_eq_true rfl, Nat.le_of_ble_eq_true rfl⟩ rfl (S1 (f + k) (by omega)).2.1 (Nat.le_of_ble_eq_true rfl) (dk rfl) (fun h2 S2 f2 => ?_)
        have eG : (([nI k], false) : TC) = (fun n => if (F (f + n)).1.length = 0 then (([nI n], false) : TC) else F (f + n)) k := (if_pos h0).symm
        rw [eG, upK_up] at S2
        exact nxt h2 S2 f2 _ rfl
      · refine br_ok X (dk rfl) rfl (show ((17 : Nat) : Int) + 13 = ((30 : Nat) : Int) from rfl) (fun _ => ?_) (fun q => absurd (fun z => h0 (nI_inj (a := (F (f + k)).1.length) (b := 0) (by omega) (by omega) z)) q)
        have eG : F (f + k) = (fun n => if (F (f + n)).1.length = 0 then (([nI n], false) : TC) else F (f + n)) k := (if_neg h0).symm
        have S2 : TS B Q h1 (upK F f (fun n => if (F (f + n)).1.length = 0 then (([nI n], false) : TC) else F (f + n)) (k + 1)) := by
          rw [← upK_up, if_neg h0, ← eg, upF_same]
          exact S1
        exact nxt h1 S2 (FrT.rf h1) _ rfl
  iterate 2 refine fst1_ok X (dk rfl) rfl ?_
  exact loop 8 0 h rfl (Nat.zero_le _) (by rw [upK_0]; exact S) (FrT.rf h) _ rfl
/-- what a match leaves -/
def mtP (B Q : Nat → Nat) (F : Nat → TC) (f : Nat) (R : Option (List (List Nat))) (h : AH) (v : Option Value) (h' : AH) : Prop :=
  v = some (.int (bI R.isSome)) ∧ FrT B Q h h' ∧ ∃ G : Nat → TC, TS B Q h' (upK F f G 8) ∧ ∀ rows, R = some rows → ∀ n, n < 8 → G n = ((rows.getD n []).map nI, false)
set_option maxHeartbeats 32000000 in
theorem s0_becomeMatch (h : AH) (Y : LYO B Q) (S : TS B Q h F) {o f : Nat} (O : AnO B h o f) (hrm : ∀ n, n < 8 → rmI (f + n) = 16) {i1 : Nat} (h1i : i1 < 52) {one : List Nat} (hN : TN (F i1) one) (h1f : i1 < f ∨ f + 8 ≤ i1) {i2 : Nat} (h2i : i2 < 52) {onto : List Nat} (hM : TN (F i2) onto) (h2f : i2 < f ∨ f + 8 ≤ i2) (wt : TW onto) (lo : onto.length ≤ 16) : CT la D cA B0 pa yX0_becomeMatch cX0_becomeMatch 7 (some .boolean) (rmD 3 0 0) [.ref o, .ref (B i1), .ref (B i2)] h (mtP B Q F f (matchL one onto) h) := by
  refine CT_of (by decide +kernel) (Nat.le_of_ble_eq_true rfl) ?_
  intro p e s m args below meth c X E hr hlk hnm
  have dk : ∀ {pc : Nat} {q : Instr × Nat}, lkd DX0_becomeMatch pc = some q → decode cX0_becomeMatch pc = .ok q := lkd_ok DX0_becomeMatch_ok
  obtain ⟨of, arr, o1, o2⟩ := id O
  have hlen1 := (S i1 h1i).1
  rw [hN.len] at hlen1
  have hL1 := rmI_le i1
  have hlen2 := (S i2 h2i).1
  rw [hM.len] at hlen2
  have hL2 := rmI_le i2
  have out : ∀ (h1 : AH) (G : Nat → TC) (bb : Bool), TS B Q h1 (upK F f G 8) → FrT B Q h h1 → bb = (matchL one onto).isSome → (bb = true → ∃ told, TT told ∧ matchF onto one 0 (List.replicate 8 none) = some told ∧ ∀ n, n < 8 → G n = mtG told n) → ∀ l : List (Nat × Value), lsel l [4, 0] = [(4, .int (bI bb)), (0, .ref o)] → WR p la e (rmD 3 0 0) s m args below meth c D cA B0 7 (mtP B Q F f (matchL one onto) h) 154 l [] h1 0 0 := by
    intro h1 G bb S1 f1 hbb hG l hl
    refine WS.sel [4, 0] hl ?_
    refine fst1_ok X (dk rfl) rfl ?_
    refine callVT_ok (ci := 2) (T := TX0) (N := 1) (av := []) (r := []) X E (s0_tellUntold h1 Y S1 (O.keep S f1)) lkX0_tellUntoldOfThemselves mlX0_92 lmX0_tellUntoldOfThemselves lpX0_tellUntoldOfThemselves ⟨Nat.le_of_ble_eq_true rfl, Nat.le_of_ble_eq_true rfl⟩ ⟨Nat.le_of_ble_eq_true rfl, Nat.le_of_ble_eq_true rfl⟩ rfl (O.keep S f1).2.choose_spec.1 (Nat.le_of_ble_eq_true rfl) (dk rfl) (fun h2 S2 f2 => ?_)
    refine fst1_ok X (dk rfl) rfl ?_
    rw [hbb]
    refine reti_ok X hr hlk (bI_n _) (dk rfl) ⟨rfl, f1.trans f2, (fun n => if (G n).1.length = 0 then (([nI n], false) : TC) else G n), ?_, ?_⟩ (Nat.le_of_ble_eq_true rfl) (Nat.le_of_ble_eq_true rfl)
    · have e0 : upK (upK F f G 8) f (fun n => if (upK F f G 8 (f + n)).1.length = 0 then (([nI n], false) : TC) else upK F f G 8 (f + n)) 8 = upK F f (fun n => if (G n).1.length = 0 then (([nI n], false) : TC) else G n) 8 := by
        funext j
        by_cases hj : f ≤ j ∧ j < f + 8
        · obtain ⟨n, rfl⟩ : ∃ n, j = f + n := ⟨j - f, by omega⟩
          have hn : n < 8 := by omega
          rw [upK_in _ f _ hn, upK_in _ f _ hn, upK_in _ f _ hn]
        · rw [upK_out _ f _ (by omega), upK_out _ f _ (by omega), upK_out _ f _ (by omega)]
      rw [← e0]
      exact S2
    · intro rows hrows n hn
      obtain ⟨told, tt, hm, hg⟩ := hG (by rw [hbb, hrows]; rfl)
      have er : rows = restT told := by
        unfold matchL at hrows
        rw [hm] at hrows
        exact (Option.some.inj hrows).symm
      rw [er]
      unfold restT
      have hnt : n < told.length := by rw [tt.1]; exact hn
      rw [List.getD_eq_getElem?_getD, List.getElem?_map, List.getElem?_range hn]
      show (if (G n).1.length = 0 then (([nI n], false) : TC) else G n) = (((told.getD n none).getD [n]).map nI, false)
      rw [hg n hn]
      unfold mtG
      cases e : told.getD n none with
      | none => rfl
      | some t =>
        have htw := (tt.2 t (by rw [← e, List.getD_eq_getElem?_getD, List.getElem?_eq_getElem hnt]; exact List.getElem_mem hnt)).1.pos
        rw [if_neg (by show ¬ (t.map nI).length = 0; rw [List.length_map]; omega)]
        rfl
  have bad : ∀ (h1 : AH) (G : Nat → TC) (q b : Nat) (x5 : Int32), TS B Q h1 (upK F f G 8) → FrT B Q h h1 → matchF onto one 0 (List.replicate 8 none) = none → ∀ l : List (Nat × Value), lsel l [5, 4, 3, 2, 1, 0] = [(5, .int x5), (4, .int (bI false)), (3, vI b), (2, .ref (B i2)), (1, .ref (B i1)), (0, .ref o)] → WR p la e (rmD 3 0 0) s m args below meth c D cA B0 7 (mtP B Q F f (matchL one onto) h) 148 l [] h1 0 0 := by
    intro h1 G q b x5 S1 f1 hm l hl
    have hR : matchL one onto = none := by unfold matchL; rw [hm]; rfl
    refine WS.sel [5, 4, 3, 2, 1, 0] hl ?_
    refine fst1_ok X (dk rfl) rfl ?_
    refine br_ok X (dk rfl) rfl (show ((151 : Nat) : Int) + (-107) = ((44 : Nat) : Int) from rfl) (fun _ => ?_) (fun q => absurd trivial q)
    iterate 2 refine fst1_ok X (dk rfl) rfl ?_
    refine callVR_ok (ci := 7) (T := TX5) (N := 3) (av := []) (r := [.int (x5 + Int32.ofInt 1)]) X E (s5_length h1 S1 h1i) lkX5_length mlX0_34 lmX5_length lpX5_length ⟨Nat.le_of_ble_eq_true rfl, Nat.le_of_ble_eq_true rfl⟩ ⟨Nat.le_of_ble_eq_true rfl, Nat.le_of_ble_eq_true rfl⟩ rfl ⟨_, (S1 i1 h1i).2.1⟩ (Nat.le_of_ble_eq_true rfl) (dk rfl) ?_
    rintro _ rfl
    refine br_ok X (dk rfl) rfl (show ((50 : Nat) : Int) + 104 = ((154 : Nat) : Int) from rfl) (fun c1 => ?_) (fun c1 => ?_)
    · exact out h1 G false S1 f1 (by rw [hR]; rfl) (fun z => by cases z) _ rfl
    · refine fst1_ok X (dk rfl) rfl ?_
      refine br_ok X (dk rfl) rfl (show ((55 : Nat) : Int) + 99 = ((154 : Nat) : Int) from rfl) (fun _ => ?_) (fun q => absurd bI_f' q)
      exact out h1 G false S1 f1 (by rw [hR]; rfl) (fun z => by cases z) _ rfl
  have loop : ∀ (d q b : Nat) (told : List (Option (List Nat))) (h1 : AH), d = one.length - q → q ≤ one.length → b ≤ onto.length → TT told → TS B Q h1 (upK F f (mtG told) 8) → FrT B Q h h1 → matchF onto (one.drop q) b told = matchF onto one 0 (List.replicate 8 none) → ∀ l : List (Nat × Value), lsel l [5, 4, 3, 2, 1, 0] = [(5, vI q), (4, .int (bI true)), (3, vI b), (2, .ref (B i2)), (1, .ref (B i1)), (0, .ref o)] → WR p la e (rmD 3 0 0) s m args below meth c D cA B0 7 (mtP B Q F f (matchL one onto) h) 44 l [] h1 0 0 := by
    intro d
    induction d with
    | zero =>
      intro q b told h1 hd hq hb tt S1 f1 eU l hl
      have hq2 : q = one.length := by omega
      rw [hq2, List.drop_length] at eU
      have e1 : upK F f (mtG told) 8 i1 = F i1 := upK_out F f _ h1f
      refine WS.sel [5, 4, 3, 2, 1, 0] hl ?_
      iterate 2 refine fst1_ok X (dk rfl) rfl ?_
      refine callVR_ok (ci := 7) (T := TX5) (N := 3) (av := []) (r := [vI q]) X E (s5_length h1 S1 h1i) lkX5_length mlX0_34 lmX5_length lpX5_length ⟨Nat.le_of_ble_eq_true rfl, Nat.le_of_ble_eq_true rfl⟩ ⟨Nat.le_of_ble_eq_true rfl, Nat.le_of_ble_eq_true rfl⟩ rfl ⟨_, (S1 i1 h1i).2.1⟩ (Nat.le_of_ble_eq_true rfl) (dk rfl) ?_
      rintro _ rfl
      rw [e1, hN.len]
      refine br_ok X (dk rfl) rfl (show ((50 : Nat) : Int) + 104 = ((154 : Nat) : Int) from rfl) (fun _ => ?_) (fun q => absurd (by rw [hq2]; exact Int32.le_refl _) q)
      exact out h1 _ true S1 f1 (by unfold matchL; rw [← eU]; rfl) (fun _ => ⟨told, tt, eU.symm, fun n hn => rfl⟩) _ rfl
    | succ d ih =>
      intro q b told h1 hd hq hb tt S1 f1 eU l hl
      obtain ⟨y, hy⟩ : ∃ y, one[q]? = some y := ⟨_, List.getElem?_eq_getElem (by omega)⟩
      have hok := hN.2 y (List.mem_of_getElem? hy)
      have hyx := hok.lt
      have e1 : upK F f (mtG told) 8 i1 = F i1 := upK_out F f _ h1f
      have e2 : upK F f (mtG told) 8 i2 = F i2 := upK_out F f _ h2f
      have hN1 : TN (upK F f (mtG told) 8 i1) one := by rw [e1]; exact hN
      have hM1 : TN (upK F f (mtG told) 8 i2) onto := by rw [e2]; exact hM
      have p1 := f1.keep S o1 (by decide) (by decide)
      have p2 := f1.keep S o2 (by decide) (by decide)
      rw [drop_cons hy] at eU
      refine WS.sel [5, 4, 3, 2, 1, 0] hl ?_
      iterate 2 refine fst1_ok X (dk rfl) rfl ?_
      refine callVR_ok (ci := 7) (T := TX5) (N := 3) (av := []) (r := [vI q]) X E (s5_length h1 S1 h1i) lkX5_length mlX0_34 lmX5_length lpX5_length ⟨Nat.le_of_ble_eq_true rfl, Nat.le_of_ble_eq_true rfl⟩ ⟨Nat.le_of_ble_eq_true rfl, Nat.le_of_ble_eq_true rfl⟩ rfl ⟨_, (S1 i1 h1i).2.1⟩ (Nat.le_of_ble_eq_true rfl) (dk rfl) ?_
      rintro _ rfl
      rw [e1, hN.len]
      refine br_ok X (dk rfl) rfl (show ((50 : Nat) : Int) + 104 = ((154 : Nat) : Int) from rfl) (fun q => absurd q (nI_ge (by omega) (by omega))) (fun _ => ?_)
      refine fst1_ok X (dk rfl) rfl ?_
      refine br_ok X (dk rfl) rfl (show ((55 : Nat) : Int) + 99 = ((154 : Nat) : Int) from rfl) (fun q => absurd q bI_t) (fun _ => ?_)
      iterate 2 refine fst1_ok X (dk rfl) rfl ?_
      refine callVR_ok (ci := 7) (T := TX5) (N := 3) (av := [vI q]) (r := []) X E (s5_letterAt h1 S1 h1i (nI q)) lkX5_letterAt mlX0_38 lmX5_letterAt lpX5_letterAt ⟨Nat.le_of_ble_eq_true rfl, Nat.le_of_ble_eq_true rfl⟩ ⟨Nat.le_of_ble_eq_true rfl, Nat.le_of_ble_eq_true rfl⟩ rfl ⟨_, (S1 i1 h1i).2.1⟩ (Nat.le_of_ble_eq_true rfl) (dk rfl) ?_
      rintro _ rfl
      rw [hN1.lt hy (by omega)]
      iterate 2 refine fst1_ok X (dk rfl) rfl ?_
      refine callNR_ok (av := [vI y]) (r := []) X E (s6_isName h1 (x := y) (by omega)) lkX6_isName mnX0_23 lsX6_isName ⟨Nat.le_of_ble_eq_true rfl, Nat.le_of_ble_eq_true rfl⟩ ⟨Nat.le_of_ble_eq_true rfl, Nat.le_of_ble_eq_true rfl⟩ (Nat.le_of_ble_eq_true rfl) (dk rfl) ?_
      rintro _ rfl
      have f3 : Value.int (nI q + Int32.ofInt 1) = vI (q + 1) := congrArg Value.int (by rw [nI_1', nI_add])
      have fb : Value.int (nI b + Int32.ofInt 1) = vI (b + 1) := congrArg Value.int (by rw [nI_1', nI_add])
      have good : ∀ (b2 : Nat) (told2 : List (Option (List Nat))) (h2 : AH), b2 ≤ onto.length → TT told2 → TS B Q h2 (upK F f (mtG told2) 8) → FrT B Q h h2 → matchF onto (one.drop (q + 1)) b2 told2 = matchF onto one 0 (List.replicate 8 none) → ∀ l : List (Nat × Value), lsel l [5, 4, 3, 2, 1, 0] = [(5, vI q), (4, .int (bI true)), (3, vI b2), (2, .ref (B i2)), (1, .ref (B i1)), (0, .ref o)] → WR p la e (rmD 3 0 0) s m args below meth c D cA B0 7 (mtP B Q F f (matchL one onto) h) 148 l [] h2 0 0 := by
        intro b2 told2 h2 hb2 tt2 S2 f2 e2 l hl
        refine WS.sel [5, 4, 3, 2, 1, 0] hl ?_
        refine fst1_ok X (dk rfl) rfl ?_
        refine br_ok X (dk rfl) rfl (show ((151 : Nat) : Int) + (-107) = ((44 : Nat) : Int) from rfl) (fun _ => ?_) (fun q => absurd trivial q)
        refine WS.sel (l' := [(5, vI (q + 1)), (4, .int (bI true)), (3, vI b2), (2, .ref (B i2)), (1, .ref (B i1)), (0, .ref o)]) [5, 4, 3, 2, 1, 0] (by rw [← f3]; rfl) ?_
        exact ih (q + 1) b2 told2 h2 (by omega) (by omega) hb2 tt2 S2 f2 e2 _ rfl
      by_cases h8 : y < 8
      · rw [decide_eq_true h8]
        refine br_ok X (dk rfl) rfl (show ((71 : Nat) : Int) + 57 = ((128 : Nat) : Int) from rfl) (fun q => absurd q bI_t) (fun _ => ?_)
        refine fst1_ok X (dk rfl) rfl ?_
        refine getf_ok X flX0_11 (dk rfl) p1 rfl ?_
        refine fst1_ok X (dk rfl) rfl ?_
        refine aldr_ok X (Or.inl rfl) (dk rfl) p2 (by omega) (rgB_get B f (k := y) h8) ?_
        have eG : upK F f (mtG told) 8 (f + y) = mtG told y := upK_in F f _ h8
        have hyt : y < told.length := by rw [tt.1]; exact h8
        refine callVR_ok (ci := 7) (T := TX5) (N := 3) (av := []) (r := []) X E (s5_length h1 S1 (i := f + y) (by omega)) lkX5_length mlX0_34 lmX5_length lpX5_length ⟨Nat.le_of_ble_eq_true rfl, Nat.le_of_ble_eq_true rfl⟩ ⟨Nat.le_of_ble_eq_true rfl, Nat.le_of_ble_eq_true rfl⟩ rfl ⟨_, (S1 (f + y) (by omega)).2.1⟩ (Nat.le_of_ble_eq_true rfl) (dk rfl) ?_
        rintro _ rfl
        rw [eG]
        cases et : told.getD y none with
        | none =>
          have eg : mtG told y = ([], false) := by unfold mtG; rw [et]
          rw [eg]
          refine br_ok X (dk rfl) rfl (show ((84 : Nat) : Int) + 20 = ((104 : Nat) : Int) from rfl) (fun q => absurd (show nI 0 = 0 by decide) q) (fun _ => ?_)
          refine fst1_ok X (dk rfl) rfl ?_
          refine getf_ok X flX0_11 (dk rfl) p1 rfl ?_
          refine fst1_ok X (dk rfl) rfl ?_
          refine aldr_ok X (Or.inl rfl) (dk rfl) p2 (by omega) (rgB_get B f (k := y) h8) ?_
          iterate 4 refine fst1_ok X (dk rfl) rfl ?_
          rcases Nat.lt_or_ge b onto.length with hbl | hbl
          · obtain ⟨k1, k2, k3, k4, k5⟩ := sub_ok wt lo hbl
            rw [mF_no (by omega) (by omega) et] at eU
            refine callVR_ok (ci := 7) (T := TX5) (N := 3) (av := [vI b]) (r := [vI b, .ref (B i2), .ref (B (f + y))]) X E (s5_endOf h1 S1 h2i hM1 k1) lkX5_endOf mlX0_81 lmX5_endOf lpX5_endOf ⟨Nat.le_of_ble_eq_true rfl, Nat.le_of_ble_eq_true rfl⟩ ⟨Nat.le_of_ble_eq_true rfl, Nat.le_of_ble_eq_true rfl⟩ rfl ⟨_, (S1 i2 h2i).2.1⟩ (Nat.le_of_ble_eq_true rfl) (dk rfl) ?_
            rintro _ rfl
            refine callVT_ok (ci := 7) (T := TX5) (N := 3) (av := [.ref (B i2), vI b, vI (b + tl onto b)]) (r := []) X E (s5_addRow h1 Y S1 (i := f + y) (by omega) (j := i2) h2i (by omega) (a := b) (b := b + tl onto b) (by omega) (by rw [e2, hM.len]; omega)) lkX5_addRow mlX0_84 lmX5_addRow lpX5_addRow ⟨Nat.le_of_ble_eq_true rfl, Nat.le_of_ble_eq_true rfl⟩ ⟨Nat.le_of_ble_eq_true rfl, Nat.le_of_ble_eq_true rfl⟩ rfl (S1 (f + y) (by omega)).2.1 (Nat.le_of_ble_eq_true rfl) (dk rfl) (fun h2 S2 f2 => ?_)
            have ea : addR (rmI (f + y)) (upK F f (mtG told) 8 (f + y)) ((((upK F f (mtG told) 8 i2).1).drop b).take (b + tl onto b - b)) = ((sub' onto b).map nI, false) := by
              rw [eG, eg, hM1.1, Nat.add_sub_cancel_left, ← List.map_drop, ← List.map_take, hrm y h8]
              exact addR_short (by have := k5; unfold sub' at this; rw [this]; omega)
            rw [ea, upK_one h8, show upK F f (fun n => if n = y then ((sub' onto b).map nI, false) else mtG told n) 8 = upK F f (mtG (told.set y (some (sub' onto b)))) 8 from upK_congr (fun n _ => (mtG_set hyt _ n).symm)] at S2
            have tt2 := tt.set (x := y) ⟨k4, by rw [k5]; omega⟩
            have q1 := (f1.trans f2).keep S o1 (by decide) (by decide)
            have q2 := (f1.trans f2).keep S o2 (by decide) (by decide)
            refine fst1_ok X (dk rfl) rfl ?_
            refine getf_ok X flX0_11 (dk rfl) q1 rfl ?_
            refine fst1_ok X (dk rfl) rfl ?_
            refine aldr_ok X (Or.inl rfl) (dk rfl) q2 (by omega) (rgB_get B f (k := y) h8) ?_
            iterate 3 refine fst1_ok X (dk rfl) rfl ?_
            have tG : TN (upK F f (mtG (told.set y (some (sub' onto b)))) 8 (f + y)) (sub' onto b) := by rw [upK_in F f _ h8, mtG_set hyt, if_pos rfl]; exact ⟨rfl, k4.2⟩
            have hM2 : TN (upK F f (mtG (told.set y (some (sub' onto b)))) 8 i2) onto := by rw [upK_out F f _ h2f]; exact hM
            refine callVR_ok (ci := 7) (T := TX5) (N := 3) (av := [vI 0, .ref (B i2), vI b]) (r := []) X E (s5_isLikeAt h2 S2 (i := f + y) (by omega) tG h2i hM2 (p0 := 0) (p2 := b) (by omega) (by rw [List.drop_zero]; exact k4.1)) lkX5_isLikeAt mlX0_88 lmX5_isLikeAt lpX5_isLikeAt ⟨Nat.le_of_ble_eq_true rfl, Nat.le_of_ble_eq_true rfl⟩ ⟨Nat.le_of_ble_eq_true rfl, Nat.le_of_ble_eq_true rfl⟩ rfl ⟨_, (S2 (f + y) (by omega)).2.1⟩ (Nat.le_of_ble_eq_true rfl) (dk rfl) ?_
            rintro _ rfl
            rw [decide_eq_true ((TW_take k4 k1).mpr rfl)]
            iterate 3 refine fst1_ok X (dk rfl) rfl ?_
            refine callVR_ok (ci := 7) (T := TX5) (N := 3) (av := [vI b]) (r := []) X E (s5_endOf h2 S2 h2i hM2 k1) lkX5_endOf mlX0_81 lmX5_endOf lpX5_endOf ⟨Nat.le_of_ble_eq_true rfl, Nat.le_of_ble_eq_true rfl⟩ ⟨Nat.le_of_ble_eq_true rfl, Nat.le_of_ble_eq_true rfl⟩ rfl ⟨_, (S2 i2 h2i).2.1⟩ (Nat.le_of_ble_eq_true rfl) (dk rfl) ?_
            rintro _ rfl
            refine fst1_ok X (dk rfl) rfl ?_
            refine br_ok X (dk rfl) rfl (show ((125 : Nat) : Int) + 23 = ((148 : Nat) : Int) from rfl) (fun _ => ?_) (fun q => absurd trivial q)
            exact good _ _ h2 (by omega) tt2 S2 (f1.trans f2) eU _ rfl
          · have hbe : b = onto.length := by omega
            rw [mF_out hbl] at eU
            refine callVR_ok (ci := 7) (T := TX5) (N := 3) (av := [vI b]) (r := [vI b, .ref (B i2), .ref (B (f + y))]) X E (s5_endOfX h1 S1 h2i hM1 hbl (by omega)) lkX5_endOf mlX0_81 lmX5_endOf lpX5_endOf ⟨Nat.le_of_ble_eq_true rfl, Nat.le_of_ble_eq_true rfl⟩ ⟨Nat.le_of_ble_eq_true rfl, Nat.le_of_ble_eq_true rfl⟩ rfl ⟨_, (S1 i2 h2i).2.1⟩ (Nat.le_of_ble_eq_true rfl) (dk rfl) ?_
            rintro _ rfl
            refine callVT_ok (ci := 7) (T := TX5) (N := 3) (av := [.ref (B i2), vI b, vI b]) (r := []) X E (s5_addRow h1 Y S1 (i := f + y) (by omega) (j := i2) h2i (by omega) (a := b) (b := b) (Nat.le_refl _) (by rw [e2, hM.len]; omega)) lkX5_addRow mlX0_84 lmX5_addRow lpX5_addRow ⟨Nat.le_of_ble_eq_true rfl, Nat.le_of_ble_eq_true rfl⟩ ⟨Nat.le_of_ble_eq_true rfl, Nat.le_of_ble_eq_true rfl⟩ rfl (S1 (f + y) (by omega)).2.1 (Nat.le_of_ble_eq_true rfl) (dk rfl) (fun h2 S2 f2 => ?_)
            rw [Nat.sub_self, List.take_zero, show addR (rmI (f + y)) (upK F f (mtG told) 8 (f + y)) [] = upK F f (mtG told) 8 (f + y) from rfl, upF_same] at S2
            have q1 := (f1.trans f2).keep S o1 (by decide) (by decide)
            have q2 := (f1.trans f2).keep S o2 (by decide) (by decide)
            refine fst1_ok X (dk rfl) rfl ?_
            refine getf_ok X flX0_11 (dk rfl) q1 rfl ?_
            refine fst1_ok X (dk rfl) rfl ?_
            refine aldr_ok X (Or.inl rfl) (dk rfl) q2 (by omega) (rgB_get B f (k := y) h8) ?_
            iterate 3 refine fst1_ok X (dk rfl) rfl ?_
            refine callVR_ok (ci := 7) (T := TX5) (N := 3) (av := [vI 0, .ref (B i2), vI b]) (r := []) X E (s5_isLikeAtE h2 S2 (i := f + y) (by omega) (by rw [eG, eg])) lkX5_isLikeAt mlX0_88 lmX5_isLikeAt lpX5_isLikeAt ⟨Nat.le_of_ble_eq_true rfl, Nat.le_of_ble_eq_true rfl⟩ ⟨Nat.le_of_ble_eq_true rfl, Nat.le_of_ble_eq_true rfl⟩ rfl ⟨_, (S2 (f + y) (by omega)).2.1⟩ (Nat.le_of_ble_eq_true rfl) (dk rfl) ?_
            rintro _ rfl
            iterate 3 refine fst1_ok X (dk rfl) rfl ?_
            refine callVR_ok (ci := 7) (T := TX5) (N := 3) (av := [vI b]) (r := []) X E (s5_endOfX h2 S2 h2i hM1 hbl (by omega)) lkX5_endOf mlX0_81 lmX5_endOf lpX5_endOf ⟨Nat.le_of_ble_eq_true rfl, Nat.le_of_ble_eq_true rfl⟩ ⟨Nat.le_of_ble_eq_true rfl, Nat.le_of_ble_eq_true rfl⟩ rfl ⟨_, (S2 i2 h2i).2.1⟩ (Nat.le_of_ble_eq_true rfl) (dk rfl) ?_
            rintro _ rfl
            refine fst1_ok X (dk rfl) rfl ?_
            refine br_ok X (dk rfl) rfl (show ((125 : Nat) : Int) + 23 = ((148 : Nat) : Int) from rfl) (fun _ => ?_) (fun q => absurd trivial q)
            exact bad h2 _ q b _ S2 (f1.trans f2) eU.symm _ rfl
        | some t =>
          obtain ⟨w1, w2⟩ := tt.2 t (by rw [← et, List.getD_eq_getElem?_getD, List.getElem?_eq_getElem hyt]; exact List.getElem_mem hyt)
          have eg : mtG told y = (t.map nI, false) := by unfold mtG; rw [et]
          have wp := w1.pos
          rw [eg, show ((t.map nI, false) : TC).1.length = t.length from List.length_map _]
          refine br_ok X (dk rfl) rfl (show ((84 : Nat) : Int) + 20 = ((104 : Nat) : Int) from rfl) (fun _ => ?_) (fun q => absurd (fun z => by have := nI_inj (a := t.length) (b := 0) (by omega) (by omega) z; omega) q)
          refine fst1_ok X (dk rfl) rfl ?_
          refine getf_ok X flX0_11 (dk rfl) p1 rfl ?_
          refine fst1_ok X (dk rfl) rfl ?_
          refine aldr_ok X (Or.inl rfl) (dk rfl) p2 (by omega) (rgB_get B f (k := y) h8) ?_
          iterate 3 refine fst1_ok X (dk rfl) rfl ?_
          have tG : TN (upK F f (mtG told) 8 (f + y)) t := by rw [eG, eg]; exact ⟨rfl, w1.2⟩
          refine callVR_ok (ci := 7) (T := TX5) (N := 3) (av := [vI 0, .ref (B i2), vI b]) (r := []) X E (s5_isLikeAt h1 S1 (i := f + y) (by omega) tG h2i hM1 (p0 := 0) (p2 := b) (by omega) (by rw [List.drop_zero]; exact w1.1)) lkX5_isLikeAt mlX0_88 lmX5_isLikeAt lpX5_isLikeAt ⟨Nat.le_of_ble_eq_true rfl, Nat.le_of_ble_eq_true rfl⟩ ⟨Nat.le_of_ble_eq_true rfl, Nat.le_of_ble_eq_true rfl⟩ rfl ⟨_, (S1 (f + y) (by omega)).2.1⟩ (Nat.le_of_ble_eq_true rfl) (dk rfl) ?_
          rintro _ rfl
          iterate 3 refine fst1_ok X (dk rfl) rfl ?_
          rcases Nat.lt_or_ge b onto.length with hbl | hbl
          · obtain ⟨k1, k2, k3, k4, k5⟩ := sub_ok wt lo hbl
            rw [mF_so (by omega) (by omega) et] at eU
            refine callVR_ok (ci := 7) (T := TX5) (N := 3) (av := [vI b]) (r := []) X E (s5_endOf h1 S1 h2i hM1 k1) lkX5_endOf mlX0_81 lmX5_endOf lpX5_endOf ⟨Nat.le_of_ble_eq_true rfl, Nat.le_of_ble_eq_true rfl⟩ ⟨Nat.le_of_ble_eq_true rfl, Nat.le_of_ble_eq_true rfl⟩ rfl ⟨_, (S1 i2 h2i).2.1⟩ (Nat.le_of_ble_eq_true rfl) (dk rfl) ?_
            rintro _ rfl
            refine fst1_ok X (dk rfl) rfl ?_
            refine br_ok X (dk rfl) rfl (show ((125 : Nat) : Int) + 23 = ((148 : Nat) : Int) from rfl) (fun _ => ?_) (fun q => absurd trivial q)
            by_cases htb : t = sub' onto b
            · rw [decide_eq_true ((TW_take w1 k1).mpr htb)]
              rw [if_pos htb] at eU
              have S2 : TS B Q h1 (upK F f (mtG (told.set y (some (sub' onto b)))) 8) := by
                rw [show upK F f (mtG (told.set y (some (sub' onto b)))) 8 = upK F f (mtG told) 8 from upK_congr (fun n _ => by
                  rw [mtG_set hyt]
                  by_cases en : n = y
                  · rw [if_pos en, en, eg, htb]
                  · rw [if_neg en])]
                exact S1
              exact good _ _ h1 (by omega) (tt.set ⟨k4, by rw [k5]; omega⟩) S2 f1 eU _ rfl
            · rw [decide_eq_false (fun z => htb ((TW_take w1 k1).mp z))]
              rw [if_neg htb] at eU
              exact bad h1 _ q (b + tl onto b) _ S1 f1 eU.symm _ rfl
          · rw [mF_out hbl] at eU
            rw [decide_eq_false (fun z => by
              rw [List.drop_zero, List.take_length, List.drop_eq_nil_of_le hbl, List.take_nil] at z
              rw [z] at wp
              exact absurd wp (Nat.lt_irrefl 0))]
            refine callVR_ok (ci := 7) (T := TX5) (N := 3) (av := [vI b]) (r := []) X E (s5_endOfX h1 S1 h2i hM1 hbl (by omega)) lkX5_endOf mlX0_81 lmX5_endOf lpX5_endOf ⟨Nat.le_of_ble_eq_true rfl, Nat.le_of_ble_eq_true rfl⟩ ⟨Nat.le_of_ble_eq_true rfl, Nat.le_of_ble_eq_true rfl⟩ rfl ⟨_, (S1 i2 h2i).2.1⟩ (Nat.le_of_ble_eq_true rfl) (dk rfl) ?_
            rintro _ rfl
            refine fst1_ok X (dk rfl) rfl ?_
            refine br_ok X (dk rfl) rfl (show ((125 : Nat) : Int) + 23 = ((148 : Nat) : Int) from rfl) (fun _ => ?_) (fun q => absurd trivial q)
            exact bad h1 _ q b _ S1 f1 eU.symm _ rfl
      · rw [decide_eq_false h8]
        have h10 : 10 ≤ y := by rcases hok with z | z <;> omega
        refine br_ok X (dk rfl) rfl (show ((71 : Nat) : Int) + 57 = ((128 : Nat) : Int) from rfl) (fun _ => ?_) (fun q => absurd bI_f' q)
        iterate 3 refine fst1_ok X (dk rfl) rfl ?_
        refine callVR_ok (ci := 7) (T := TX5) (N := 3) (av := [vI b]) (r := [vI y]) X E (s5_letterAt h1 S1 h2i (nI b)) lkX5_letterAt mlX0_38 lmX5_letterAt lpX5_letterAt ⟨Nat.le_of_ble_eq_true rfl, Nat.le_of_ble_eq_true rfl⟩ ⟨Nat.le_of_ble_eq_true rfl, Nat.le_of_ble_eq_true rfl⟩ rfl ⟨_, (S1 i2 h2i).2.1⟩ (Nat.le_of_ble_eq_true rfl) (dk rfl) ?_
        rintro _ rfl
        rcases Nat.lt_or_ge b onto.length with hbl | hbl
        · obtain ⟨z, hz⟩ : ∃ z, onto[b]? = some z := ⟨_, List.getElem?_eq_getElem hbl⟩
          have hzx := (hM.2 z (List.mem_of_getElem? hz)).lt
          rw [hM1.lt hz (by omega)]
          rw [mF_hd (by omega) h10, hz] at eU
          by_cases hyz : z = y
          · rw [if_pos (by rw [hyz])] at eU
            refine br_ok X (dk rfl) rfl (show ((135 : Nat) : Int) + 7 = ((142 : Nat) : Int) from rfl) (fun q => absurd (by rw [hyz]) q) (fun _ => ?_)
            refine fst1_ok X (dk rfl) rfl ?_
            refine br_ok X (dk rfl) rfl (show ((139 : Nat) : Int) + 4 = ((143 : Nat) : Int) from rfl) (fun _ => ?_) (fun q => absurd trivial q)
            iterate 2 refine fst1_ok X (dk rfl) rfl ?_
            refine WS.sel (l' := [(5, vI q), (4, .int (bI true)), (3, vI (b + 1)), (2, .ref (B i2)), (1, .ref (B i1)), (0, .ref o)]) [5, 4, 3, 2, 1, 0] (by rw [← fb]; rfl) ?_
            exact good (b + 1) told h1 (by omega) tt S1 f1 eU _ rfl
          · rw [if_neg (fun z => hyz (Option.some.inj z))] at eU
            refine br_ok X (dk rfl) rfl (show ((135 : Nat) : Int) + 7 = ((142 : Nat) : Int) from rfl) (fun _ => ?_) (fun q => absurd (fun z => hyz (nI_inj (by omega) (by omega) z).symm) q)
            iterate 3 refine fst1_ok X (dk rfl) rfl ?_
            refine WS.sel (l' := [(5, vI q), (4, .int (bI false)), (3, vI (b + 1)), (2, .ref (B i2)), (1, .ref (B i1)), (0, .ref o)]) [5, 4, 3, 2, 1, 0] (by rw [← fb]; rfl) ?_
            exact bad h1 _ q (b + 1) _ S1 f1 eU.symm _ rfl
        · rw [hM1.out hbl (by omega)]
          rw [mF_out hbl] at eU
          refine br_ok X (dk rfl) rfl (show ((135 : Nat) : Int) + 7 = ((142 : Nat) : Int) from rfl) (fun _ => ?_) (fun q => absurd (nI_m9 (by omega)) q)
          iterate 3 refine fst1_ok X (dk rfl) rfl ?_
          refine WS.sel (l' := [(5, vI q), (4, .int (bI false)), (3, vI (b + 1)), (2, .ref (B i2)), (1, .ref (B i1)), (0, .ref o)]) [5, 4, 3, 2, 1, 0] (by rw [← fb]; rfl) ?_
          exact bad h1 _ q (b + 1) _ S1 f1 eU.symm _ rfl
  have first : ∀ (d k : Nat) (h1 : AH), d = 8 - k → k ≤ 8 → TS B Q h1 (upK F f (fun _ => (([], false) : TC)) k) → FrT B Q h h1 → ∀ l : List (Nat × Value), lsel l [5, 4, 3, 2, 1, 0] = [(5, vI k), (4, vI 8), (3, .ref arr), (2, .ref (B i2)), (1, .ref (B i1)), (0, .ref o)] → WR p la e (rmD 3 0 0) s m args below meth c D cA B0 7 (mtP B Q F f (matchL one onto) h) 12 l [] h1 0 0 := by
    intro d
    induction d with
    | zero =>
      intro k h1 hd hk S1 f1 l hl
      have hk2 : k = 8 := by omega
      subst hk2
      refine WS.sel [5, 4, 3, 2, 1, 0] hl ?_
      iterate 2 refine fst1_ok X (dk rfl) rfl ?_
      refine br_ok X (dk rfl) rfl (show ((16 : Nat) : Int) + 20 = ((36 : Nat) : Int) from rfl) (fun _ => ?_) (fun q => absurd (Int32.le_refl _) q)
      iterate 6 refine fst1_ok X (dk rfl) rfl ?_
      have S2 : TS B Q h1 (upK F f (mtG (List.replicate 8 none)) 8) := by
        rw [show upK F f (mtG (List.replicate 8 none)) 8 = upK F f (fun _ => (([], false) : TC)) 8 from upK_congr (fun n _ => mtG_none n)]
        exact S1
      exact loop _ 0 0 (List.replicate 8 none) h1 rfl (Nat.zero_le _) (Nat.zero_le _) ⟨rfl, fun r hr => by cases List.eq_of_mem_replicate hr⟩ S2 f1 (by rw [List.drop_zero]) _ rfl
    | succ d ih =>
      intro k h1 hd hk S1 f1 l hl
      have p2 := f1.keep S o2 (by decide) (by decide)
      refine WS.sel [5, 4, 3, 2, 1, 0] hl ?_
      iterate 2 refine fst1_ok X (dk rfl) rfl ?_
      refine br_ok X (dk rfl) rfl (show ((16 : Nat) : Int) + 20 = ((36 : Nat) : Int) from rfl) (fun q => absurd q (nI_ge (a := k) (b := 8) (by omega) (by omega))) (fun _ => ?_)
      iterate 2 refine fst1_ok X (dk rfl) rfl ?_
      refine aldr_ok X (Or.inl rfl) (dk rfl) p2 (by omega) (rgB_get B f (k := k) (by omega)) ?_
      iterate 2 refine fst1_ok X (dk rfl) rfl ?_
      refine callVT_ok (ci := 7) (T := TX5) (N := 3) (av := []) (r := []) X E (s5_empty h1 Y S1 (i := f + k) (by omega)) lkX5_empty mlX0_57 lmX5_empty lpX5_empty ⟨Nat.le_of_ble_eq_true rfl, Nat.le_of_ble_eq_true rfl⟩ ⟨Nat.le_of_ble_eq_true rfl, Nat.le_of_ble_eq_true rfl⟩ rfl (S1 (f + k) (by omega)).2.1 (Nat.le_of_ble_eq_true rfl) (dk rfl) (fun h2 S2 f2 => ?_)
      rw [show (([], false) : TC) = (fun _ => (([], false) : TC)) k from rfl, upK_up] at S2
      refine fst1_ok X (dk rfl) rfl ?_
      refine br_ok X (dk rfl) rfl (show ((33 : Nat) : Int) + (-21) = ((12 : Nat) : Int) from rfl) (fun _ => ?_) (fun q => absurd trivial q)
      have f2' : Value.int (nI k + Int32.ofInt 1) = vI (k + 1) := congrArg Value.int (by rw [nI_1', nI_add])
      refine WS.sel (l' := [(5, vI (k + 1)), (4, vI 8), (3, .ref arr), (2, .ref (B i2)), (1, .ref (B i1)), (0, .ref o)]) [5, 4, 3, 2, 1, 0] (by rw [← f2']; rfl) ?_
      exact ih (k + 1) h2 (by omega) (by omega) S2 (f1.trans f2) _ rfl
  refine fst1_ok X (dk rfl) rfl ?_
  refine getf_ok X flX0_11 (dk rfl) o1 rfl ?_
  iterate 2 refine fst1_ok X (dk rfl) rfl ?_
  refine alen_ok X (by decide) (dk rfl) o2 ?_
  rw [show ((rgB B f 8).map Value.ref).length = 8 by simp [rgB]]
  iterate 3 refine fst1_ok X (dk rfl) rfl ?_
  exact first 8 0 h rfl (Nat.zero_le _) (by rw [upK_0]; exact S) (FrT.rf h) _ rfl
end S12
end Uc12match
