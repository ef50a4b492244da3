/-! the class's acts on answers, strongly (printed by wip/p20/genS9.py) -/
def becA (k : Nat) (made : List (List Nat)) (st : ST) : RS := if made.any (fun z => decide (16 < z.length)) then noS st else becS k made st
def aForget (x1 : Int32) (st : ST) : RS := if okI 3 x1 then anS st (st.2.1.set (xI x1) nm8) (bcF (nI (movedN (st.2.1.getD (xI x1) []) 8))) else ((1, 0), st)
def aTake (x1 x2 : Int32) (st : ST) : RS := if okI 3 x1 then (if okI 3 x2 then becS (xI x2) (st.2.1.getD (xI x1) []) st else ((1, 0), st)) else ((1, 0), st)
def aTell (x1 x2 x3 : Int32) (st : ST) : RS := if okI 3 x1 then (if okI 6 x3 then (if okI 8 x2 then
  anS st (st.2.1.set (xI x1) ((st.2.1.getD (xI x1) []).set (xI x2) (st.1.getD (xI x3) []))) (if (st.2.1.getD (xI x1) []).getD (xI x2) [] = st.1.getD (xI x3) [] then 0 else 1) else ((2, 0), st)) else ((1, 0), st)) else ((1, 0), st)
def behL (r1 r2 : List (List Nat)) : List (List Nat) := r1.map (usedL r2)
def aBehind (x1 x2 x3 : Int32) (st : ST) : RS := if okI 3 x1 then (if okI 3 x2 then (if okI 3 x3 then becA (xI x3) (behL (st.2.1.getD (xI x1) []) (st.2.1.getD (xI x2) [])) st else ((1, 0), st)) else ((1, 0), st)) else ((1, 0), st)
theorem tlA_f (F : Nat → TC) (f : Nat) : ∀ n, (∀ k, k < n → (F (f + k)).2 = false) → tlA F f n = false
  | 0, _ => rfl
  | n + 1, h => by
    unfold tlA
    rw [tlA_f F f n (fun k hk => h k (by omega)), h n (by omega)]
    rfl
theorem FS.setA {F : Nat → TC} {st : ST} (H : FS F st) {k : Nat} (hk : k < 3) (hl : st.2.1.length = 3) {rows : List (List Nat)} {G : Nat → TC} (hr : rows.length = 8) (hG : ∀ n, n < 8 → ∃ ns, rows[n]? = some ns ∧ G n = (ns.map nI, false) ∧ TW ns ∧ ns.length ≤ 16) (d r : Int32) : FS (upK F (6 + 8 * k) G 8) (st.1, st.2.1.set k rows, d, r) := by
  refine ⟨fun j hj => ?_, fun i hi => ?_⟩
  · obtain ⟨ns, h1, h2⟩ := H.1 j hj
    exact ⟨ns, h1, by rw [upK_out F _ _ (by omega)]; exact h2⟩
  · by_cases e : i = k
    · subst e
      refine ⟨rows, List.getElem?_set_self (by omega), hr, fun n hn => ?_⟩
      obtain ⟨ns, g1, g2, g3⟩ := hG n hn
      exact ⟨ns, g1, by rw [upK_in F _ G hn]; exact g2, g3⟩
    · obtain ⟨rw2, h1, h2, h3⟩ := H.2 i hi
      refine ⟨rw2, by show (st.2.1.set k rows)[i]? = _; rw [List.getElem?_set_ne (Ne.symm e)]; exact h1, h2, fun n hn => ?_⟩
      obtain ⟨ns, g1, g2, g3⟩ := h3 n hn
      exact ⟨ns, g1, by rw [upK_out F _ _ (by omega)]; exact g2, g3⟩
theorem StO.setA {st : ST} (O : StO st) {rows : List (List Nat)} (hr : AO rows) (k : Nat) (d r : Int32) : StO (st.1, st.2.1.set k rows, d, r) :=
  ⟨O.1, O.2.1, by show (st.2.1.set k rows).length = 3; rw [List.length_set]; exact O.2.2.1, fun x hx => (List.mem_or_eq_of_mem_set hx).elim (O.2.2.2 x) (fun e => by rw [e]; exact hr)⟩
theorem FS.gotA {F : Nat → TC} {sl : List (List Nat)} {an : List (List (List Nat))} {k : Nat} {rows : List (List Nat)} {d r : Int32} (H : FS F (sl, an.set k rows, d, r)) (hk : k < 3) (hl : an.length = 3) : RWX F (6 + 8 * k) rows := by
  obtain ⟨r2, q1, q2⟩ := H.2 k hk
  have e : (an.set k rows)[k]? = some rows := List.getElem?_set_self (by omega)
  have e2 : some rows = some r2 := e.symm.trans q1
  cases e2
  exact q2
theorem upK_fs {F : Nat → TC} {st : ST} (H : FS F st) {f : Nat} (hf : 30 ≤ f) (G : Nat → TC) : FS (upK F f G 8) st := by
  refine ⟨fun j hj => ?_, fun k hk => ?_⟩
  · obtain ⟨ns, h1, h2⟩ := H.1 j hj
    exact ⟨ns, h1, by rw [upK_out F _ _ (by omega)]; exact h2⟩
  · obtain ⟨rows, h1, h2, h3⟩ := H.2 k hk
    exact ⟨rows, h1, h2, fun n hn => by
      obtain ⟨ns, g1, g2, g3⟩ := h3 n hn
      exact ⟨ns, g1, by rw [upK_out F _ _ (by omega)]; exact g2, g3⟩⟩
/-- eight terms, as they come from uses -/
def MDE (F : Nat → TC) (f : Nat) (made : List (List Nat)) : Prop := made.length = 8 ∧ ∀ n, n < 8 → ∃ zs, made[n]? = some zs ∧ F (f + n) = addR 16 ([], false) (zs.map nI) ∧ TW zs
theorem addR_short {zs : List Nat} (h : zs.length ≤ 16) : addR 16 ([], false) (zs.map nI) = (zs.map nI, false) := by
  rw [addR_fit (by show 0 + (zs.map nI).length ≤ 16; rw [List.length_map]; omega)]
  exact Prod.ext (List.nil_append _) rfl
theorem addR_flag (zs : List Nat) : (addR 16 ([], false) (zs.map nI)).2 = decide (16 < zs.length) := by
  rw [addR_eq _ _ _ (Nat.zero_le _)]
  show (false || decide (16 < 0 + (zs.map nI).length)) = _
  rw [Bool.false_or, List.length_map, Nat.zero_add]
theorem MDE.tl {F : Nat → TC} {f : Nat} {made : List (List Nat)} (H : MDE F f made) : tlA F f 8 = made.any (fun z => decide (16 < z.length)) := by
  cases e : made.any (fun z => decide (16 < z.length)) with
  | true =>
    obtain ⟨z, hz, h16⟩ := List.any_eq_true.mp e
    obtain ⟨n, hn, rfl⟩ := List.mem_iff_getElem.mp hz
    have hn8 : n < 8 := by rw [← H.1]; exact hn
    obtain ⟨zs, z1, z2, -⟩ := H.2 n hn8
    rw [List.getElem?_eq_getElem hn] at z1
    cases z1
    exact tlA_le F f (k := n) (by rw [z2, addR_flag]; exact h16) 8 hn8
  | false =>
    refine tlA_f F f 8 (fun n hn => ?_)
    obtain ⟨zs, z1, z2, -⟩ := H.2 n hn
    rw [z2, addR_flag]
    cases h16 : decide (16 < zs.length) with
    | false => rfl
    | true =>
      have : made.any (fun z => decide (16 < z.length)) = true := List.any_eq_true.mpr ⟨zs, List.mem_of_getElem? z1, h16⟩
      rw [this] at e
      cases e
theorem MDE.short {F : Nat → TC} {f : Nat} {made : List (List Nat)} (H : MDE F f made) (e : made.any (fun z => decide (16 < z.length)) = false) : RWX F f made := by
  refine ⟨H.1, fun n hn => ?_⟩
  obtain ⟨zs, z1, z2, z3⟩ := H.2 n hn
  have h16 : zs.length ≤ 16 := by
    rcases Nat.lt_or_ge 16 zs.length with q | q
    · have : made.any (fun z => decide (16 < z.length)) = true := List.any_eq_true.mpr ⟨zs, List.mem_of_getElem? z1, decide_eq_true q⟩
      rw [this] at e
      cases e
    · exact q
  exact ⟨zs, z1, by rw [z2, addR_short h16], z3, h16⟩
section S10
variable {la : Launch} {D : va_G} {cA : Nat → ClassId} {B0 pa : Nat} {B Q P : Nat → Nat} {ox : Nat} {kn : Int32} {F : Nat → TC}
set_option maxHeartbeats 16000000 in
theorem s6_putSpareAnswerInto (h : AH) (Y : LYO B Q) {st : ST} (C : CLS B Q P ox kn h F st.2.2.1 st.2.2.2) (H : FS F st) (O : StO st) {k : Nat} (hk : k < 3) {made : List (List Nat)} (hm : MDE F 34 made) : CT la D cA B0 pa yX6_putSpareAnswerInto cX6_putSpareAnswerInto 2 (some .int) (rmD 5 0 0) [.ref ox, .ref (P (7 + k))] h (AP B Q P ox kn (becA k made st) h) := by
  refine CT_of (by decide +kernel) (Nat.le_of_ble_eq_true rfl) ?_
  intro p e s m args below meth c X E hr hlk hnm
  have dk : ∀ {pc : Nat} {q : Instr × Nat}, lkd DX6_putSpareAnswerInto pc = some q → decode cX6_putSpareAnswerInto pc = .ok q := lkd_ok DX6_putSpareAnswerInto_ok
  refine fst1_ok X (dk rfl) rfl ?_
  refine getf_ok X flX6_38 (dk rfl) C.2.1 rfl ?_
  have oa := C.2.2.1.2.2.2.1
  have ok := C.2.2.1.2.2.1 k hk
  refine callVR_ok (ci := 2) (T := TX0) (N := 1) (av := []) (r := []) X E (s0_isTooLong h C.1 oa) lkX0_isTooLong mlX6_230 lmX0_isTooLong lpX0_isTooLong ⟨Nat.le_of_ble_eq_true rfl, Nat.le_of_ble_eq_true rfl⟩ ⟨Nat.le_of_ble_eq_true rfl, Nat.le_of_ble_eq_true rfl⟩ rfl ⟨_, oa.2.choose_spec.1⟩ (Nat.le_of_ble_eq_true rfl) (dk rfl) ?_
  rintro _ rfl
  rw [hm.tl]
  cases e : made.any (fun z => decide (16 < z.length)) with
  | true =>
    refine br_ok X (dk rfl) rfl (show ((7 : Nat) : Int) + 8 = ((15 : Nat) : Int) from rfl) (fun q => absurd q bI_t) (fun _ => ?_)
    refine fst1_ok X (dk rfl) rfl ?_
    refine callV_ok (ci := 8) (T := TX6) (N := 14) (av := []) (r := []) X E (s6_refuse h C) lkX6_refuse mlX6_119 lmX6_refuse lpX6_refuse ⟨Nat.le_of_ble_eq_true rfl, Nat.le_of_ble_eq_true rfl⟩ ⟨Nat.le_of_ble_eq_true rfl, Nat.le_of_ble_eq_true rfl⟩ rfl C.2.1 (Nat.le_of_ble_eq_true rfl) (dk rfl) ?_
    rintro _ h1 ⟨rfl, C1, f1⟩
    have eb : becA k made st = noS st := if_pos e
    rw [eb]
    exact reti_ok X hr hlk rfl (dk rfl) (⟨rfl, rfl, ⟨F, C1, H.cnt _ _, O.cnt _ _⟩, f1⟩) (Nat.le_of_ble_eq_true rfl) (Nat.le_of_ble_eq_true rfl)
  | false =>
    refine br_ok X (dk rfl) rfl (show ((7 : Nat) : Int) + 8 = ((15 : Nat) : Int) from rfl) (fun _ => ?_) (fun q => absurd bI_f' q)
    have R := hm.short e
    iterate 2 refine fst1_ok X (dk rfl) rfl ?_
    refine getf_ok X flX6_38 (dk rfl) C.2.1 rfl ?_
    refine callVT_ok (ci := 2) (T := TX0) (N := 1) (av := [.ref (P 2)]) (r := []) X E (s0_becomeAs h Y C.1 ok oa (by omega) (fun n hn => by obtain ⟨ns, -, g2, -, g4⟩ := R.2 n hn; rw [g2, List.length_map]; exact g4)) lkX0_becomeAs mlX6_172 lmX0_becomeAs lpX0_becomeAs ⟨Nat.le_of_ble_eq_true rfl, Nat.le_of_ble_eq_true rfl⟩ ⟨Nat.le_of_ble_eq_true rfl, Nat.le_of_ble_eq_true rfl⟩ rfl ok.2.choose_spec.1 (Nat.le_of_ble_eq_true rfl) (dk rfl) (fun h1 S1 f1 => ?_)
    have C1 := C.tm Y S1 f1
    have H1 := H.setA hk O.2.2.1 (rows := made) hm.1 (fun n hn => R.2 n hn) (st.2.2.1 + Int32.ofInt 1) st.2.2.2
    have R1 : RWX (upK F (6 + 8 * k) (fun n => F (34 + n)) 8) (6 + 8 * k) made := H1.gotA hk O.2.2.1
    have ok1 := ok.keep C.1 f1
    iterate 2 refine fst1_ok X (dk rfl) rfl ?_
    refine callVR_ok (ci := 2) (T := TX0) (N := 1) (av := []) (r := [.ref ox]) X E (s0_movedCount h1 S1 ok1 R1) lkX0_movedCount mlX6_163 lmX0_movedCount lpX0_movedCount ⟨Nat.le_of_ble_eq_true rfl, Nat.le_of_ble_eq_true rfl⟩ ⟨Nat.le_of_ble_eq_true rfl, Nat.le_of_ble_eq_true rfl⟩ rfl ⟨_, ok1.2.choose_spec.1⟩ (Nat.le_of_ble_eq_true rfl) (dk rfl) ?_
    rintro _ rfl
    refine callV_ok (ci := 8) (T := TX6) (N := 14) (av := [.int (bcF (nI (movedN made 8)))]) (r := []) X E (s6_did h1 C1 _) lkX6_did mlX6_80 lmX6_did lpX6_did ⟨Nat.le_of_ble_eq_true rfl, Nat.le_of_ble_eq_true rfl⟩ ⟨Nat.le_of_ble_eq_true rfl, Nat.le_of_ble_eq_true rfl⟩ rfl C1.2.1 (Nat.le_of_ble_eq_true rfl) (dk rfl) ?_
    rintro _ h2 ⟨rfl, C2, f2⟩
    have eb : becA k made st = becS k made st := if_neg (by rw [e]; decide)
    rw [eb]
    exact reti_ok X hr hlk rfl (dk rfl) (⟨rfl, rfl, ⟨_, C2, H1, O.setA R.ao k _ _⟩, (f1.frC C.1).trans f2⟩) (Nat.le_of_ble_eq_true rfl) (Nat.le_of_ble_eq_true rfl)
set_option maxHeartbeats 8000000 in
theorem s6_forget (h : AH) (hl : la.stackTraces = false) (Y : LYO B Q) {st : ST} (C0 : StC B Q P ox kn h st) (x1 : Int32) : CTX la D cA B0 pa yX6_forget cX6_forget 4 (some .int) (rmD 7 1 6) [.ref ox, .int x1] h (AP B Q P ox kn (aForget x1 st) h) (AX (aForget x1 st) st h) := by
  refine CTX_of (by decide +kernel) (Nat.le_of_ble_eq_true rfl) ?_
  intro p e s m args below meth c X E hr hlk hnm ht
  have dk : ∀ {pc : Nat} {q : Instr × Nat}, lkd DX6_forget pc = some q → decode cX6_forget pc = .ok q := lkd_ok DX6_forget_ok
  obtain ⟨F, C, H, O⟩ := id C0
  iterate 2 refine fst1_ok X (dk rfl) rfl ?_
  refine callVX_ok (ci := 8) (T := TX6) (N := 14) (av := [.int x1]) (r := []) X E ht hlk (s6_answerOf h hl C x1) (fun E1 h1 z => AX.one (by unfold aForget; rw [if_neg (by rw [okI_f z.2.1]; decide)]) ⟨z.1, z.2.2⟩) lkX6_answerOf mlX6_151 lmX6_answerOf lpX6_answerOf ⟨Nat.le_of_ble_eq_true rfl, Nat.le_of_ble_eq_true rfl⟩ ⟨Nat.le_of_ble_eq_true rfl, Nat.le_of_ble_eq_true rfl⟩ rfl C.2.1 (Nat.le_of_ble_eq_true rfl) (dk rfl) ?_
  rintro _ h1 ⟨⟨k, hk, rfl, rfl⟩, eh⟩
  obtain rfl := eh.symm
  obtain ⟨rows, sk, rk⟩ := H.2 k hk
  have ok := C.2.2.1.2.2.1 k hk
  iterate 2 refine fst1_ok X (dk rfl) rfl ?_
  refine callVR_ok (ci := 2) (T := TX0) (N := 1) (av := []) (r := []) X E (s0_movedCount _ C.1 ok rk) lkX0_movedCount mlX6_163 lmX0_movedCount lpX0_movedCount ⟨Nat.le_of_ble_eq_true rfl, Nat.le_of_ble_eq_true rfl⟩ ⟨Nat.le_of_ble_eq_true rfl, Nat.le_of_ble_eq_true rfl⟩ rfl ⟨_, ok.2.choose_spec.1⟩ (Nat.le_of_ble_eq_true rfl) (dk rfl) ?_
  rintro _ rfl
  iterate 2 refine fst1_ok X (dk rfl) rfl ?_
  refine callVT_ok (ci := 2) (T := TX0) (N := 1) (av := []) (r := []) X E (s0_moveNone _ Y C.1 ok) lkX0_moveNone mlX6_166 lmX0_moveNone lpX0_moveNone ⟨Nat.le_of_ble_eq_true rfl, Nat.le_of_ble_eq_true rfl⟩ ⟨Nat.le_of_ble_eq_true rfl, Nat.le_of_ble_eq_true rfl⟩ rfl ok.2.choose_spec.1 (Nat.le_of_ble_eq_true rfl) (dk rfl) (fun h2 S2 f2 => ?_)
  have C2 := C.tm Y S2 f2
  iterate 2 refine fst1_ok X (dk rfl) rfl ?_
  refine callV_ok (ci := 8) (T := TX6) (N := 14) (av := [.int (bcF (nI (movedN rows 8)))]) (r := []) X E (s6_did h2 C2 _) lkX6_did mlX6_80 lmX6_did lpX6_did ⟨Nat.le_of_ble_eq_true rfl, Nat.le_of_ble_eq_true rfl⟩ ⟨Nat.le_of_ble_eq_true rfl, Nat.le_of_ble_eq_true rfl⟩ rfl C2.2.1 (Nat.le_of_ble_eq_true rfl) (dk rfl) ?_
  rintro _ h3 ⟨rfl, C3, f3⟩
  have hn8 : ∀ n, n < 8 → ∃ ns, nm8[n]? = some ns ∧ (([nI n], false) : TC) = (ns.map nI, false) ∧ TW ns ∧ ns.length ≤ 16 := fun n hn => ⟨[n], by unfold nm8; rw [List.getElem?_map, List.getElem?_range hn]; rfl, rfl, TW.name hn, Nat.le_of_ble_eq_true rfl⟩
  have H3 := H.setA hk O.2.2.1 (rows := nm8) (G := fun n => ([nI n], false)) rfl hn8 (st.2.2.1 + Int32.ofInt 1) st.2.2.2
  have a8 : AO nm8 := ⟨rfl, fun z hz => by
    unfold nm8 at hz
    rw [List.mem_map] at hz
    obtain ⟨n, hn, rfl⟩ := hz
    exact ⟨TW.name (List.mem_range.mp hn), Nat.le_of_ble_eq_true rfl⟩⟩
  have e : aForget (nI k) st = anS st (st.2.1.set k nm8) (bcF (nI (movedN rows 8))) := by
    unfold aForget
    rw [if_pos (okI_t hk (by decide)), xI_n (by omega), getD_of sk]
  rw [e]
  refine WRX.ret ?_
  exact reti_ok X hr hlk rfl (dk rfl) (⟨rfl, rfl, ⟨_, C3, H3, O.setA a8 k _ _⟩, (f2.frC C.1).trans f3⟩) (Nat.le_of_ble_eq_true rfl) (Nat.le_of_ble_eq_true rfl)
set_option maxHeartbeats 8000000 in
theorem s6_take (h : AH) (hl : la.stackTraces = false) (Y : LYO B Q) {st : ST} (C0 : StC B Q P ox kn h st) (x1 x2 : Int32) : CTX la D cA B0 pa yX6_take cX6_take 5 (some .int) (rmD 7 2 12) [.ref ox, .int x1, .int x2] h (AP B Q P ox kn (aTake x1 x2 st) h) (AX (aTake x1 x2 st) st h) := by
  refine CTX_of (by decide +kernel) (Nat.le_of_ble_eq_true rfl) ?_
  intro p e s m args below meth c X E hr hlk hnm ht
  have dk : ∀ {pc : Nat} {q : Instr × Nat}, lkd DX6_take pc = some q → decode cX6_take pc = .ok q := lkd_ok DX6_take_ok
  obtain ⟨F, C, H, O⟩ := id C0
  iterate 2 refine fst1_ok X (dk rfl) rfl ?_
  refine callVX_ok (ci := 8) (T := TX6) (N := 14) (av := [.int x1]) (r := []) X E ht hlk (s6_answerOf h hl C x1) (fun E1 h1 z => AX.one (by unfold aTake; rw [if_neg (by rw [okI_f z.2.1]; decide)]) ⟨z.1, z.2.2⟩) lkX6_answerOf mlX6_151 lmX6_answerOf lpX6_answerOf ⟨Nat.le_of_ble_eq_true rfl, Nat.le_of_ble_eq_true rfl⟩ ⟨Nat.le_of_ble_eq_true rfl, Nat.le_of_ble_eq_true rfl⟩ rfl C.2.1 (Nat.le_of_ble_eq_true rfl) (dk rfl) ?_
  rintro _ h1 ⟨⟨k, hk, rfl, rfl⟩, eh⟩
  obtain rfl := eh.symm
  iterate 3 refine fst1_ok X (dk rfl) rfl ?_
  refine callVX_ok (ci := 8) (T := TX6) (N := 14) (av := [.int x2]) (r := []) X E ht hlk (s6_answerOf _ hl C x2) (fun E1 h1 z => AX.one (by unfold aTake; rw [if_pos (okI_t hk (by decide))]; rw [if_neg (by rw [okI_f z.2.1]; decide)]) ⟨z.1, z.2.2⟩) lkX6_answerOf mlX6_151 lmX6_answerOf lpX6_answerOf ⟨Nat.le_of_ble_eq_true rfl, Nat.le_of_ble_eq_true rfl⟩ ⟨Nat.le_of_ble_eq_true rfl, Nat.le_of_ble_eq_true rfl⟩ rfl C.2.1 (Nat.le_of_ble_eq_true rfl) (dk rfl) ?_
  rintro _ h1 ⟨⟨i, hi, rfl, rfl⟩, eh⟩
  obtain rfl := eh.symm
  obtain ⟨rows, sk, rk⟩ := H.2 k hk
  have ok := C.2.2.1.2.2.1 k hk
  have oi := C.2.2.1.2.2.1 i hi
  iterate 3 refine fst1_ok X (dk rfl) rfl ?_
  refine callVT_ok (ci := 2) (T := TX0) (N := 1) (av := [.ref (P (7 + k))]) (r := []) X E (s0_becomeAs _ Y C.1 oi ok (by omega) (fun n hn => by obtain ⟨ns, -, g2, -, g4⟩ := rk.2 n hn; rw [g2, List.length_map]; exact g4)) lkX0_becomeAs mlX6_172 lmX0_becomeAs lpX0_becomeAs ⟨Nat.le_of_ble_eq_true rfl, Nat.le_of_ble_eq_true rfl⟩ ⟨Nat.le_of_ble_eq_true rfl, Nat.le_of_ble_eq_true rfl⟩ rfl oi.2.choose_spec.1 (Nat.le_of_ble_eq_true rfl) (dk rfl) (fun h2 S2 f2 => ?_)
  have C2 := C.tm Y S2 f2
  have H2 := H.setA hi O.2.2.1 (rows := rows) rk.1 (fun n hn => rk.2 n hn) (st.2.2.1 + Int32.ofInt 1) st.2.2.2
  have R2 : RWX (upK F (6 + 8 * i) (fun n => F (6 + 8 * k + n)) 8) (6 + 8 * i) rows := H2.gotA hi O.2.2.1
  have oi2 := oi.keep C.1 f2
  iterate 2 refine fst1_ok X (dk rfl) rfl ?_
  refine callVR_ok (ci := 2) (T := TX0) (N := 1) (av := []) (r := [.ref ox]) X E (s0_movedCount h2 S2 oi2 R2) lkX0_movedCount mlX6_163 lmX0_movedCount lpX0_movedCount ⟨Nat.le_of_ble_eq_true rfl, Nat.le_of_ble_eq_true rfl⟩ ⟨Nat.le_of_ble_eq_true rfl, Nat.le_of_ble_eq_true rfl⟩ rfl ⟨_, oi2.2.choose_spec.1⟩ (Nat.le_of_ble_eq_true rfl) (dk rfl) ?_
  rintro _ rfl
  refine callV_ok (ci := 8) (T := TX6) (N := 14) (av := [.int (bcF (nI (movedN rows 8)))]) (r := []) X E (s6_did h2 C2 _) lkX6_did mlX6_80 lmX6_did lpX6_did ⟨Nat.le_of_ble_eq_true rfl, Nat.le_of_ble_eq_true rfl⟩ ⟨Nat.le_of_ble_eq_true rfl, Nat.le_of_ble_eq_true rfl⟩ rfl C2.2.1 (Nat.le_of_ble_eq_true rfl) (dk rfl) ?_
  rintro _ h3 ⟨rfl, C3, f3⟩
  have e : aTake (nI k) (nI i) st = becS i rows st := by
    unfold aTake
    rw [if_pos (okI_t hk (by decide)), if_pos (okI_t hi (by decide)), xI_n (by omega), xI_n (by omega), getD_of sk]
  rw [e]
  refine WRX.ret ?_
  exact reti_ok X hr hlk rfl (dk rfl) (⟨rfl, rfl, ⟨_, C3, H2, O.setA rk.ao i _ _⟩, (f2.frC C.1).trans f3⟩) (Nat.le_of_ble_eq_true rfl) (Nat.le_of_ble_eq_true rfl)
set_option maxHeartbeats 4000000 in
theorem s0_of (h : AH) (hl : la.stackTraces = false) (S : TS B Q h F) {oo f : Nat} (OO : AnO B h oo f) (x : Int32) : CTX la D cA B0 pa yX0_of cX0_of 2 (some (.object "Branchmatch$Term")) (rmD 6 1 6) [.ref oo, .int x] h (fun v h' => (∃ j, j < 8 ∧ x = nI j ∧ v = some (.ref (B (f + j)))) ∧ h' = h) (fun E h' => E = iae ∧ ¬ inN 8 x ∧ h' = h) := by
  refine CTX_of (by decide +kernel) (Nat.le_of_ble_eq_true rfl) ?_
  intro p e s m args below meth c X E hr hlk hnm ht
  have dk : ∀ {pc : Nat} {q : Instr × Nat}, lkd DX0_of pc = some q → decode cX0_of pc = .ok q := lkd_ok DX0_of_ok
  obtain ⟨of, arr, o1, o2⟩ := id OO
  refine fst1_ok X (dk rfl) rfl ?_
  refine callNR_ok (av := [.int x]) (r := []) X E (c6_isName _ (TygN h) x) lkX6_isName mnX0_23 lsX6_isName ⟨Nat.le_of_ble_eq_true rfl, Nat.le_of_ble_eq_true rfl⟩ ⟨Nat.le_of_ble_eq_true rfl, Nat.le_of_ble_eq_true rfl⟩ (Nat.le_of_ble_eq_true rfl) (dk rfl) ?_
  rintro _ ⟨b1, rfl, hb2, hn3⟩
  refine br_ok X (dk rfl) rfl (show ((4 : Nat) : Int) + 13 = ((17 : Nat) : Int) from rfl) (fun c4 => ?_) (fun c4 => ?_)
  · obtain ⟨j, hj, rfl⟩ := hb2 (bI_nz c4)
    refine fst1_ok X (dk rfl) rfl ?_
    refine getf_ok X flX0_11 (dk rfl) o1 rfl ?_
    refine fst1_ok X (dk rfl) rfl ?_
    refine aldr_ok X (Or.inl rfl) (dk rfl) o2 (by omega) (rgB_get B f (k := j) hj) ?_
    refine WRX.ret ?_
    exact reta_ok X hr hlk (Or.inl ⟨_, rfl⟩) (Or.inr ⟨_, rfl⟩) (dk rfl) ⟨⟨j, hj, rfl, rfl⟩, rfl⟩ (Nat.le_of_ble_eq_true rfl) (Nat.le_of_ble_eq_true rfl)
  · have c5 : b1 = false := by
      cases b1 with
      | false => rfl
      | true => exact absurd bI_t c4
    exact throwS_ok X E hl ht hlk xwX0_31 (List.mem_of_getElem? (i := 8) rfl) (dk rfl) (dk rfl) (dk rfl) (dk rfl) (dk rfl) ⟨Nat.le_of_ble_eq_true rfl, Nat.le_of_ble_eq_true rfl⟩ ⟨Nat.le_of_ble_eq_true rfl, Nat.le_of_ble_eq_true rfl⟩ ⟨rfl, (hn3 c5), rfl⟩
set_option maxHeartbeats 16000000 in
theorem s6_tell (h : AH) (hl : la.stackTraces = false) (Y : LYO B Q) {st : ST} (C0 : StC B Q P ox kn h st) (x1 x2 x3 : Int32) : CTX la D cA B0 pa yX6_tell cX6_tell 8 (some .int) (rmD 7 3 18) [.ref ox, .int x1, .int x2, .int x3] h (AP B Q P ox kn (aTell x1 x2 x3 st) h) (AX (aTell x1 x2 x3 st) st h) := by
  refine CTX_of (by decide +kernel) (Nat.le_of_ble_eq_true rfl) ?_
  intro p e s m args below meth c X E hr hlk hnm ht
  have dk : ∀ {pc : Nat} {q : Instr × Nat}, lkd DX6_tell pc = some q → decode cX6_tell pc = .ok q := lkd_ok DX6_tell_ok
  obtain ⟨F, C, H, O⟩ := id C0
  iterate 2 refine fst1_ok X (dk rfl) rfl ?_
  refine callVX_ok (ci := 8) (T := TX6) (N := 14) (av := [.int x1]) (r := []) X E ht hlk (s6_answerOf h hl C x1) (fun E1 h1 z => AX.one (by unfold aTell; rw [if_neg (by rw [okI_f z.2.1]; decide)]) ⟨z.1, z.2.2⟩) lkX6_answerOf mlX6_151 lmX6_answerOf lpX6_answerOf ⟨Nat.le_of_ble_eq_true rfl, Nat.le_of_ble_eq_true rfl⟩ ⟨Nat.le_of_ble_eq_true rfl, Nat.le_of_ble_eq_true rfl⟩ rfl C.2.1 (Nat.le_of_ble_eq_true rfl) (dk rfl) ?_
  rintro _ h1 ⟨⟨k, hk, rfl, rfl⟩, eh⟩
  obtain rfl := eh.symm
  iterate 3 refine fst1_ok X (dk rfl) rfl ?_
  refine callVX_ok (ci := 8) (T := TX6) (N := 14) (av := [.int x3]) (r := []) X E ht hlk (s6_termOf _ hl C x3) (fun E1 h1 z => AX.one (by unfold aTell; rw [if_pos (okI_t hk (by decide))]; rw [if_neg (by rw [okI_f z.2.1]; decide)]) ⟨z.1, z.2.2⟩) lkX6_termOf mlX6_69 lmX6_termOf lpX6_termOf ⟨Nat.le_of_ble_eq_true rfl, Nat.le_of_ble_eq_true rfl⟩ ⟨Nat.le_of_ble_eq_true rfl, Nat.le_of_ble_eq_true rfl⟩ rfl C.2.1 (Nat.le_of_ble_eq_true rfl) (dk rfl) ?_
  rintro _ h1 ⟨⟨j, hj, rfl, rfl⟩, eh⟩
  obtain rfl := eh.symm
  obtain ⟨rows, sk, rk⟩ := H.2 k hk
  have ok := C.2.2.1.2.2.1 k hk
  obtain ⟨nj, sj, ej, tj, wj, lj⟩ := H.slot O hj
  iterate 3 refine fst1_ok X (dk rfl) rfl ?_
  refine callVX_ok (ci := 2) (T := TX0) (N := 1) (av := [.int x2]) (r := []) X E ht hlk (s0_of _ hl C.1 ok x2) (fun E1 h1 z => AX.two (by unfold aTell; rw [if_pos (okI_t hk (by decide)), if_pos (okI_t hj (by decide)), if_neg (by rw [okI_f z.2.1]; decide)]) ⟨z.1, z.2.2⟩) lkX0_of mlX6_169 lmX0_of lpX0_of ⟨Nat.le_of_ble_eq_true rfl, Nat.le_of_ble_eq_true rfl⟩ ⟨Nat.le_of_ble_eq_true rfl, Nat.le_of_ble_eq_true rfl⟩ rfl ok.2.choose_spec.1 (Nat.le_of_ble_eq_true rfl) (dk rfl) ?_
  rintro _ h1 ⟨⟨i, hi, rfl, rfl⟩, eh⟩
  obtain rfl := eh.symm
  obtain ⟨ni, si, ti, wi, li⟩ := rk.tn (n := i) hi
  iterate 3 refine fst1_ok X (dk rfl) rfl ?_
  refine callVR_ok (ci := 7) (T := TX5) (N := 3) (av := [.ref (B j)]) (r := []) X E (s5_isLike _ C.1 (i := 6 + 8 * k + i) (by omega) ti (u := j) (by omega) tj wi.1 wj.1) lkX5_isLike mlX6_111 lmX5_isLike lpX5_isLike ⟨Nat.le_of_ble_eq_true rfl, Nat.le_of_ble_eq_true rfl⟩ ⟨Nat.le_of_ble_eq_true rfl, Nat.le_of_ble_eq_true rfl⟩ rfl ⟨_, (C.1 (6 + 8 * k + i) (by omega)).2.1⟩ (Nat.le_of_ble_eq_true rfl) (dk rfl) ?_
  rintro _ rfl
  iterate 3 refine fst1_ok X (dk rfl) rfl ?_
  have hrm : rmI (6 + 8 * k + i) = 16 := if_pos (by omega)
  refine callVT_ok (ci := 7) (T := TX5) (N := 3) (av := [.ref (B j)]) (r := []) X E (s5_becomeAs _ Y C.1 (i := 6 + 8 * k + i) (by omega) (j := j) (by omega) (by rw [tj.len, hrm]; exact lj)) lkX5_becomeAs mlX6_108 lmX5_becomeAs lpX5_becomeAs ⟨Nat.le_of_ble_eq_true rfl, Nat.le_of_ble_eq_true rfl⟩ ⟨Nat.le_of_ble_eq_true rfl, Nat.le_of_ble_eq_true rfl⟩ rfl (C.1 (6 + 8 * k + i) (by omega)).2.1 (Nat.le_of_ble_eq_true rfl) (dk rfl) (fun h2 S2 f2 => ?_)
  rw [ej] at S2
  have C2 := C.tm Y S2 f2
  have H2 : FS (upF F (6 + 8 * k + i) (nj.map nI, false)) (st.1, st.2.1.set k (rows.set i nj), st.2.2.1 + Int32.ofInt 1, st.2.2.2) := by
    refine ⟨fun u hu => ?_, fun u hu => ?_⟩
    · obtain ⟨ns, g1, g2⟩ := H.1 u hu
      exact ⟨ns, g1, by rw [upF_ne _ _ (by omega)]; exact g2⟩
    · by_cases eu : u = k
      · subst eu
        refine ⟨rows.set i nj, List.getElem?_set_self (by rw [O.2.2.1]; exact hk), by rw [List.length_set]; exact rk.1, fun n hn => ?_⟩
        by_cases en : n = i
        · subst en
          exact ⟨nj, List.getElem?_set_self (by rw [rk.1]; exact hn), upF_self _ _ _, wj, lj⟩
        · obtain ⟨ns, g1, g2, g3⟩ := rk.2 n hn
          exact ⟨ns, by rw [List.getElem?_set_ne (Ne.symm en)]; exact g1, by rw [upF_ne _ _ (by omega)]; exact g2, g3⟩
      · obtain ⟨rw2, q1, q2, q3⟩ := H.2 u hu
        refine ⟨rw2, by show (st.2.1.set k (rows.set i nj))[u]? = _; rw [List.getElem?_set_ne (Ne.symm eu)]; exact q1, q2, fun n hn => ?_⟩
        obtain ⟨ns, g1, g2, g3⟩ := q3 n hn
        exact ⟨ns, g1, by rw [upF_ne _ _ (by omega)]; exact g2, g3⟩
  have O2 : StO (st.1, st.2.1.set k (rows.set i nj), st.2.2.1 + Int32.ofInt 1, st.2.2.2) := O.setA ⟨by rw [List.length_set]; exact rk.1, fun z hz => (List.mem_or_eq_of_mem_set hz).elim (rk.ao.2 z) (fun e => by rw [e]; exact ⟨wj, lj⟩)⟩ k _ _
  have fin : ∀ (t : Int32), t = (if ni = nj then 0 else 1) → ∀ l : List (Nat × Value), WRX p la e (rmD 7 3 18) s m args below meth c D cA B0 8 (AP B Q P ox kn (aTell (nI k) (nI i) (nI j) st) h) (AX (aTell (nI k) (nI i) (nI j) st) st h) 49 l [.int t, .ref ox] h2 (0 + 1 + 1 + 1) (0 + 6 + 6 + 6) := by
    intro t ht0 l
    refine callV_ok (ci := 8) (T := TX6) (N := 14) (av := [.int t]) (r := []) X E (s6_did h2 C2 _) lkX6_did mlX6_80 lmX6_did lpX6_did ⟨Nat.le_of_ble_eq_true rfl, Nat.le_of_ble_eq_true rfl⟩ ⟨Nat.le_of_ble_eq_true rfl, Nat.le_of_ble_eq_true rfl⟩ rfl C2.2.1 (Nat.le_of_ble_eq_true rfl) (dk rfl) ?_
    rintro _ h5 ⟨rfl, C5, f5⟩
    have e : aTell (nI k) (nI i) (nI j) st = anS st (st.2.1.set k (rows.set i nj)) t := by
      unfold aTell
      rw [if_pos (okI_t hk (by decide)), if_pos (okI_t hj (by decide)), if_pos (okI_t hi (by decide)), xI_n (by omega), xI_n (by omega), xI_n (by omega), getD_of sk, getD_of sj, getD_of si, ht0]
    rw [e]
    refine WRX.ret ?_
    exact reti_ok X hr hlk rfl (dk rfl) (⟨rfl, rfl, ⟨_, C5, H2, O2⟩, (f2.frC C.1).trans f5⟩) (Nat.le_of_ble_eq_true rfl) (Nat.le_of_ble_eq_true rfl)
  iterate 2 refine fst1_ok X (dk rfl) rfl ?_
  by_cases hs : ni = nj
  · rw [decide_eq_true hs]
    refine br_ok X (dk rfl) rfl (show ((41 : Nat) : Int) + 7 = ((48 : Nat) : Int) from rfl) (fun q => absurd q bI_t) (fun _ => ?_)
    refine fst1_ok X (dk rfl) rfl ?_
    refine br_ok X (dk rfl) rfl (show ((45 : Nat) : Int) + 4 = ((49 : Nat) : Int) from rfl) (fun _ => ?_) (fun q => absurd trivial q)
    exact fin _ (by rw [if_pos hs]; rfl) _
  · rw [decide_eq_false hs]
    refine br_ok X (dk rfl) rfl (show ((41 : Nat) : Int) + 7 = ((48 : Nat) : Int) from rfl) (fun _ => ?_) (fun q => absurd bI_f' q)
    refine fst1_ok X (dk rfl) rfl ?_
    exact fin _ (by rw [if_neg hs]; rfl) _
set_option maxHeartbeats 16000000 in
theorem s6_behind (h : AH) (hl : la.stackTraces = false) (Y : LYO B Q) {st : ST} (C0 : StC B Q P ox kn h st) (x1 x2 x3 : Int32) : CTX la D cA B0 pa yX6_behind cX6_behind 7 (some .int) (rmD 7 3 18) [.ref ox, .int x1, .int x2, .int x3] h (AP B Q P ox kn (aBehind x1 x2 x3 st) h) (AX (aBehind x1 x2 x3 st) st h) := by
  refine CTX_of (by decide +kernel) (Nat.le_of_ble_eq_true rfl) ?_
  intro p e s m args below meth c X E hr hlk hnm ht
  have dk : ∀ {pc : Nat} {q : Instr × Nat}, lkd DX6_behind pc = some q → decode cX6_behind pc = .ok q := lkd_ok DX6_behind_ok
  obtain ⟨F, C, H, O⟩ := id C0
  iterate 2 refine fst1_ok X (dk rfl) rfl ?_
  refine callVX_ok (ci := 8) (T := TX6) (N := 14) (av := [.int x1]) (r := []) X E ht hlk (s6_answerOf h hl C x1) (fun E1 h1 z => AX.one (by unfold aBehind; rw [if_neg (by rw [okI_f z.2.1]; decide)]) ⟨z.1, z.2.2⟩) lkX6_answerOf mlX6_151 lmX6_answerOf lpX6_answerOf ⟨Nat.le_of_ble_eq_true rfl, Nat.le_of_ble_eq_true rfl⟩ ⟨Nat.le_of_ble_eq_true rfl, Nat.le_of_ble_eq_true rfl⟩ rfl C.2.1 (Nat.le_of_ble_eq_true rfl) (dk rfl) ?_
  rintro _ h1 ⟨⟨k, hk, rfl, rfl⟩, eh⟩
  obtain rfl := eh.symm
  iterate 3 refine fst1_ok X (dk rfl) rfl ?_
  refine callVX_ok (ci := 8) (T := TX6) (N := 14) (av := [.int x2]) (r := []) X E ht hlk (s6_answerOf _ hl C x2) (fun E1 h1 z => AX.one (by unfold aBehind; rw [if_pos (okI_t hk (by decide))]; rw [if_neg (by rw [okI_f z.2.1]; decide)]) ⟨z.1, z.2.2⟩) lkX6_answerOf mlX6_151 lmX6_answerOf lpX6_answerOf ⟨Nat.le_of_ble_eq_true rfl, Nat.le_of_ble_eq_true rfl⟩ ⟨Nat.le_of_ble_eq_true rfl, Nat.le_of_ble_eq_true rfl⟩ rfl C.2.1 (Nat.le_of_ble_eq_true rfl) (dk rfl) ?_
  rintro _ h1 ⟨⟨j, hj, rfl, rfl⟩, eh⟩
  obtain rfl := eh.symm
  iterate 3 refine fst1_ok X (dk rfl) rfl ?_
  refine callVX_ok (ci := 8) (T := TX6) (N := 14) (av := [.int x3]) (r := []) X E ht hlk (s6_answerOf _ hl C x3) (fun E1 h1 z => AX.one (by unfold aBehind; rw [if_pos (okI_t hk (by decide)), if_pos (okI_t hj (by decide))]; rw [if_neg (by rw [okI_f z.2.1]; decide)]) ⟨z.1, z.2.2⟩) lkX6_answerOf mlX6_151 lmX6_answerOf lpX6_answerOf ⟨Nat.le_of_ble_eq_true rfl, Nat.le_of_ble_eq_true rfl⟩ ⟨Nat.le_of_ble_eq_true rfl, Nat.le_of_ble_eq_true rfl⟩ rfl C.2.1 (Nat.le_of_ble_eq_true rfl) (dk rfl) ?_
  rintro _ h1 ⟨⟨i, hi, rfl, rfl⟩, eh⟩
  obtain rfl := eh.symm
  obtain ⟨rows, sk, rk⟩ := H.2 k hk
  obtain ⟨r2, s2, t2⟩ := H.2 j hj
  have ok := C.2.2.1.2.2.1 k hk
  have oj := C.2.2.1.2.2.1 j hj
  have oa := C.2.2.1.2.2.2.1
  iterate 2 refine fst1_ok X (dk rfl) rfl ?_
  refine getf_ok X flX6_38 (dk rfl) C.2.1 rfl ?_
  iterate 2 refine fst1_ok X (dk rfl) rfl ?_
  refine callVT_ok (ci := 2) (T := TX0) (N := 1) (av := [.ref (P (7 + k)), .ref (P (7 + j))]) (r := []) X E (s0_becomeBoth _ Y C.1 oa ok oj (by omega) (by omega) (fun n hn => by unfold rmI; rw [if_neg (by omega), if_neg (by omega), if_pos (by omega)]) rk) lkX0_becomeBoth mlX6_175 lmX0_becomeBoth lpX0_becomeBoth ⟨Nat.le_of_ble_eq_true rfl, Nat.le_of_ble_eq_true rfl⟩ ⟨Nat.le_of_ble_eq_true rfl, Nat.le_of_ble_eq_true rfl⟩ rfl oa.2.choose_spec.1 (Nat.le_of_ble_eq_true rfl) (dk rfl) (fun h2 S2 f2 => ?_)
  have C2 := C.tm Y S2 f2
  have hm : MDE (upK F 34 (fun n => auC 16 F (6 + 8 * j) ([], false) (rows.getD n [])) 8) 34 (behL rows r2) := by
    refine ⟨by unfold behL; rw [List.length_map]; exact rk.1, fun n hn => ?_⟩
    obtain ⟨ns, g1, g2, g3, g4⟩ := rk.2 n hn
    refine ⟨usedL r2 ns, by unfold behL; rw [List.getElem?_map, g1]; rfl, ?_, TW_used t2.ao g3⟩
    rw [upK_in F 34 _ hn]
    show auC 16 F (6 + 8 * j) ([], false) (rows.getD n []) = _
    rw [getD_of g1]
    exact auC_rows t2 ns _ g3.2 (Nat.zero_le _)
  iterate 2 refine fst1_ok X (dk rfl) rfl ?_
  refine callV_ok (ci := 8) (T := TX6) (N := 14) (av := [.ref (P (7 + i))]) (r := []) X E (s6_putSpareAnswerInto h2 Y C2 (upK_fs H (by omega) _) O hi hm) lkX6_putSpareAnswerInto mlX6_179 lmX6_putSpareAnswerInto lpX6_putSpareAnswerInto ⟨Nat.le_of_ble_eq_true rfl, Nat.le_of_ble_eq_true rfl⟩ ⟨Nat.le_of_ble_eq_true rfl, Nat.le_of_ble_eq_true rfl⟩ rfl C2.2.1 (Nat.le_of_ble_eq_true rfl) (dk rfl) ?_
  rintro v h3 ⟨g1, rfl, g3, g4⟩
  have e : aBehind (nI k) (nI j) (nI i) st = becA i (behL rows r2) st := by
    unfold aBehind
    rw [if_pos (okI_t hk (by decide)), if_pos (okI_t hj (by decide)), if_pos (okI_t hi (by decide)), xI_n (by omega), xI_n (by omega), xI_n (by omega), getD_of sk, getD_of s2]
  rw [e]
  refine WRX.ret ?_
  exact reti_ok X hr hlk rfl (dk rfl) (⟨g1, rfl, g3, (f2.frC C.1).trans g4⟩) (Nat.le_of_ble_eq_true rfl) (Nat.le_of_ble_eq_true rfl)
end S10
