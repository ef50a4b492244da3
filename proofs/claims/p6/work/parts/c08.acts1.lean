/-! what the acts do; the class's acts, strongly (printed by wip/p20/genS7.py) -/
abbrev RS : Type := (Nat × Int32) × ST
def m9 : Int32 := (Int8.ofInt (-9)).toInt32
def noS (st : ST) : RS := ((0, m9), (st.1, st.2.1, st.2.2.1, st.2.2.2 + Int32.ofInt 1))
def slS (st : ST) (sl : List (List Nat)) (t : Int32) : RS := ((0, t), (sl, st.2.1, st.2.2.1 + Int32.ofInt 1, st.2.2.2))
def anS (st : ST) (an : List (List (List Nat))) (t : Int32) : RS := ((0, t), (st.1, an, st.2.2.1 + Int32.ofInt 1, st.2.2.2))
def giveS (j : Nat) (zs : List Nat) (t : Int32) (st : ST) : RS := if 16 < zs.length then noS st else slS st (st.1.set j zs) t
def becS (k : Nat) (rows : List (List Nat)) (st : ST) : RS := anS st (st.2.1.set k rows) (bcF (nI (movedN rows 8)))
def xI (x : Int32) : Nat := x.toNatClampNeg
def nm8 : List (List Nat) := (List.range 8).map (fun k => [k])
def aName (x1 x2 : Int32) (st : ST) : RS := if okI 6 x1 then (if okI 8 x2 then slS st (st.1.set (xI x1) [xI x2]) (nI (st.1.getD (xI x1) []).length) else ((2, 0), st)) else ((1, 0), st)
def aCopy (x1 x2 : Int32) (st : ST) : RS := if okI 6 x1 then (if okI 6 x2 then giveS (xI x2) (st.1.getD (xI x1) []) (nI (st.1.getD (xI x1) []).length) st else ((1, 0), st)) else ((1, 0), st)
def aSwap (x1 x2 : Int32) (st : ST) : RS := if okI 6 x1 then (if okI 6 x2 then slS st ((st.1.set (xI x1) (st.1.getD (xI x2) [])).set (xI x2) (st.1.getD (xI x1) [])) (if st.1.getD (xI x1) [] = st.1.getD (xI x2) [] then 0 else 1) else ((1, 0), st)) else ((1, 0), st)
def aPart (x1 x2 x3 : Int32) (st : ST) : RS := if okI 6 x1 then (if okI 6 x3 then (if okI (st.1.getD (xI x1) []).length x2 then giveS (xI x3) (sub' (st.1.getD (xI x1) []) (xI x2)) (nI (sub' (st.1.getD (xI x1) []) (xI x2)).length) st else noS st) else ((1, 0), st)) else ((1, 0), st)
def grL (a z : List Nat) (p : Nat) : List Nat := (a.take p ++ z) ++ a.drop (p + tl a p)
def aGraft (x1 x2 x3 : Int32) (st : ST) : RS := if okI 6 x1 then (if okI 6 x3 then (if okI (st.1.getD (xI x1) []).length x2 then giveS (xI x1) (grL (st.1.getD (xI x1) []) (st.1.getD (xI x3) []) (xI x2)) (nI (grL (st.1.getD (xI x1) []) (st.1.getD (xI x3) []) (xI x2)).length) st else noS st) else ((1, 0), st)) else ((1, 0), st)
def aUse (x1 x2 x3 : Int32) (st : ST) : RS := if okI 3 x1 then (if okI 6 x2 then (if okI 6 x3 then giveS (xI x3) (usedL (st.2.1.getD (xI x1) []) (st.1.getD (xI x2) [])) (nI (usedL (st.2.1.getD (xI x1) []) (st.1.getD (xI x2) [])).length) st else ((1, 0), st)) else ((1, 0), st)) else ((1, 0), st)
def StC (B Q P : Nat → Nat) (ox : Nat) (kn : Int32) (h : AH) (st : ST) : Prop := ∃ F, CLS B Q P ox kn h F st.2.2.1 st.2.2.2 ∧ FS F st ∧ StO st
def AP (B Q P : Nat → Nat) (ox : Nat) (kn : Int32) (res : RS) (h : AH) (v : Option Value) (h' : AH) : Prop := res.1.1 = 0 ∧ v = some (.int res.1.2) ∧ StC B Q P ox kn h' res.2 ∧ FrC h h'
def AX (res : RS) (st : ST) (h : AH) (E : String) (h' : AH) : Prop := ((res.1.1 = 1 ∧ E = ioobe) ∨ (res.1.1 = 2 ∧ E = iae)) ∧ res.2 = st ∧ h' = h
theorem AX.one {st : ST} {h h' : AH} {E : String} {res : RS} (hr : res = ((1, 0), st)) (z : E = ioobe ∧ h' = h) : AX res st h E h' := by
  subst hr
  exact ⟨Or.inl ⟨rfl, z.1⟩, rfl, z.2⟩
theorem AX.two {st : ST} {h h' : AH} {E : String} {res : RS} (hr : res = ((2, 0), st)) (z : E = iae ∧ h' = h) : AX res st h E h' := by
  subst hr
  exact ⟨Or.inr ⟨rfl, z.1⟩, rfl, z.2⟩
theorem xI_n {j : Nat} (h : j < 2 ^ 31) : xI (nI j) = j := nI_clamp h
theorem getD_of {α : Type} {xs : List α} {j : Nat} {x d : α} (h : xs[j]? = some x) : xs.getD j d = x := by rw [List.getD_eq_getElem?_getD, h]; rfl
theorem FS.slot {F : Nat → TC} {st : ST} (H : FS F st) (O : StO st) {j : Nat} (hj : j < 6) : ∃ ns, st.1[j]? = some ns ∧ F j = (ns.map nI, false) ∧ TN (F j) ns ∧ TW ns ∧ ns.length ≤ 16 := by
  obtain ⟨ns, h1, h2⟩ := H.1 j hj
  obtain ⟨h3, h4⟩ := O.2.1 ns (List.mem_of_getElem? h1)
  exact ⟨ns, h1, h2, ⟨by rw [h2], h3.2⟩, h3, h4⟩
theorem FS.set {F : Nat → TC} {st : ST} (H : FS F st) {j : Nat} (hj : j < 6) (hl : st.1.length = 6) (zs : List Nat) (d r : Int32) : FS (upF F j (zs.map nI, false)) (st.1.set j zs, st.2.1, d, r) := by
  refine ⟨fun i hi => ?_, fun k hk => ?_⟩
  · by_cases e : i = j
    · subst e
      exact ⟨zs, List.getElem?_set_self (by omega), upF_self _ _ _⟩
    · obtain ⟨ns, h1, h2⟩ := H.1 i hi
      exact ⟨ns, by show (st.1.set j zs)[i]? = _; rw [List.getElem?_set_ne (Ne.symm e)]; exact h1, by rw [upF_ne _ _ e]; exact h2⟩
  · obtain ⟨rows, h1, h2, h3⟩ := H.2 k hk
    exact ⟨rows, h1, h2, fun n hn => by
      obtain ⟨ns, g1, g2, g3⟩ := h3 n hn
      exact ⟨ns, g1, by rw [upF_ne _ _ (by omega)]; exact g2, g3⟩⟩
theorem StO.set {st : ST} (O : StO st) {zs : List Nat} (hz : TW zs ∧ zs.length ≤ 16) (j : Nat) (d r : Int32) : StO (st.1.set j zs, st.2.1, d, r) :=
  ⟨by show (st.1.set j zs).length = 6; rw [List.length_set]; exact O.1, fun x hx => (List.mem_or_eq_of_mem_set hx).elim (O.2.1 x) (fun e => by rw [e]; exact hz), O.2.2⟩
theorem FS.cnt {F : Nat → TC} {st : ST} (H : FS F st) (d r : Int32) : FS F (st.1, st.2.1, d, r) := H
theorem StO.cnt {st : ST} (O : StO st) (d r : Int32) : StO (st.1, st.2.1, d, r) := O
/-- what a slot was given -/
theorem gvP.ap {B Q P : Nat → Nat} {ox : Nat} {kn : Int32} {h0 h h' : AH} {F : Nat → TC} {st : ST} {j : Nat} {zs : List Nat} {v : Option Value} (G : gvP B Q P ox kn h F st.2.2.1 st.2.2.2 j zs v h') (f0 : FrC h0 h) (H : FS F st) (O : StO st) (hj : j < 6) (hz : TW zs) : AP B Q P ox kn (giveS j zs (nI zs.length) st) h0 v h' := by
  obtain ⟨f, ⟨h1, rfl, C⟩ | ⟨h1, rfl, C⟩⟩ := G
  · unfold giveS
    rw [if_pos h1]
    exact ⟨rfl, rfl, ⟨F, C, H.cnt _ _, O.cnt _ _⟩, f0.trans f⟩
  · unfold giveS
    rw [if_neg (by omega)]
    exact ⟨rfl, rfl, ⟨_, C, H.set hj O.1 zs _ _, O.set ⟨hz, h1⟩ j _ _⟩, f0.trans f⟩
theorem subTW {ns : List Nat} (h : TW ns) {p : Nat} (hp : p < ns.length) : endL 1 (ns.drop p) = some (tl ns p) ∧ 0 < tl ns p ∧ p + tl ns p ≤ ns.length ∧ TW (sub' ns p) := by
  obtain ⟨k, h1, h2, h3, h4⟩ := h.at hp
  have e : tl ns p = k := by unfold tl; rw [h1]; rfl
  unfold sub'
  rw [e]
  exact ⟨h1, h2, h3, h4⟩
section S08
variable {la : Launch} {D : va_G} {cA : Nat → ClassId} {B0 pa : Nat} {B Q P : Nat → Nat} {ox : Nat} {kn : Int32}
set_option maxHeartbeats 8000000 in
theorem s6_name (h : AH) (hl : la.stackTraces = false) (Y : LYO B Q) {st : ST} (C0 : StC B Q P ox kn h st) (x1 x2 : Int32) : CTX la D cA B0 pa yX6_name cX6_name 5 (some .int) (rmD 7 2 12) [.ref ox, .int x1, .int x2] h (AP B Q P ox kn (aName x1 x2 st) h) (AX (aName x1 x2 st) st h) := by
  refine CTX_of (by decide +kernel) (Nat.le_of_ble_eq_true rfl) ?_
  intro p e s m args below meth c X E hr hlk hnm ht
  have dk : ∀ {pc : Nat} {q : Instr × Nat}, lkd DX6_name pc = some q → decode cX6_name pc = .ok q := lkd_ok DX6_name_ok
  obtain ⟨F, C, H, O⟩ := id C0
  iterate 2 refine fst1_ok X (dk rfl) rfl ?_
  refine callVX_ok (ci := 8) (T := TX6) (N := 14) (av := [.int x1]) (r := []) X E ht hlk (s6_termOf h hl C x1) (fun E1 h1 z => AX.one (by unfold aName; rw [if_neg (by rw [okI_f z.2.1]; decide)]) ⟨z.1, z.2.2⟩) lkX6_termOf mlX6_69 lmX6_termOf lpX6_termOf ⟨Nat.le_of_ble_eq_true rfl, Nat.le_of_ble_eq_true rfl⟩ ⟨Nat.le_of_ble_eq_true rfl, Nat.le_of_ble_eq_true rfl⟩ rfl C.2.1 (Nat.le_of_ble_eq_true rfl) (dk rfl) ?_
  rintro _ h1 ⟨⟨j, hj, rfl, rfl⟩, eh⟩
  obtain rfl := eh.symm
  obtain ⟨nj, sj, ej, tj, wj, lj⟩ := H.slot O hj
  iterate 2 refine fst1_ok X (dk rfl) rfl ?_
  refine callSX_ok (av := [.int x2]) (r := []) X E ht hlk (s6_needName _ hl x2) (fun E1 h1 z => AX.two (by unfold aName; rw [if_pos (okI_t hj (by decide)), if_neg (by rw [okI_f z.2.1]; decide)]) ⟨z.1, z.2.2⟩) lkX6_needName mlX6_73 lsX6_needName ⟨Nat.le_of_ble_eq_true rfl, Nat.le_of_ble_eq_true rfl⟩ ⟨Nat.le_of_ble_eq_true rfl, Nat.le_of_ble_eq_true rfl⟩ (Nat.le_of_ble_eq_true rfl) (dk rfl) ?_
  rintro _ h1 ⟨⟨i, hi, rfl, rfl⟩, eh⟩
  obtain rfl := eh.symm
  refine fst1_ok X (dk rfl) rfl ?_
  refine callVR_ok (ci := 7) (T := TX5) (N := 3) (av := []) (r := []) X E (s5_length _ C.1 (i := j) (by omega)) lkX5_length mlX6_76 lmX5_length lpX5_length ⟨Nat.le_of_ble_eq_true rfl, Nat.le_of_ble_eq_true rfl⟩ ⟨Nat.le_of_ble_eq_true rfl, Nat.le_of_ble_eq_true rfl⟩ rfl ⟨_, (C.1 j (by omega)).2.1⟩ (Nat.le_of_ble_eq_true rfl) (dk rfl) ?_
  rintro _ rfl
  rw [tj.len]
  iterate 3 refine fst1_ok X (dk rfl) rfl ?_
  refine callVT_ok (ci := 7) (T := TX5) (N := 3) (av := [vI i]) (r := []) X E (s5_becomeName _ Y C.1 (i := j) (by omega) (nI i)) lkX5_becomeName mlX6_66 lmX5_becomeName lpX5_becomeName ⟨Nat.le_of_ble_eq_true rfl, Nat.le_of_ble_eq_true rfl⟩ ⟨Nat.le_of_ble_eq_true rfl, Nat.le_of_ble_eq_true rfl⟩ rfl (C.1 j (by omega)).2.1 (Nat.le_of_ble_eq_true rfl) (dk rfl) (fun h2 S2 f2 => ?_)
  have C2 := C.tm Y S2 f2
  iterate 2 refine fst1_ok X (dk rfl) rfl ?_
  refine callV_ok (ci := 8) (T := TX6) (N := 14) (av := [vI nj.length]) (r := []) X E (s6_did h2 C2 _) lkX6_did mlX6_80 lmX6_did lpX6_did ⟨Nat.le_of_ble_eq_true rfl, Nat.le_of_ble_eq_true rfl⟩ ⟨Nat.le_of_ble_eq_true rfl, Nat.le_of_ble_eq_true rfl⟩ rfl C2.2.1 (Nat.le_of_ble_eq_true rfl) (dk rfl) ?_
  rintro _ h3 ⟨rfl, C3, f3⟩
  have e : aName (nI j) (nI i) st = slS st (st.1.set j [i]) (nI nj.length) := by
    unfold aName
    rw [if_pos (okI_t hj (by decide)), if_pos (okI_t hi (by decide)), xI_n (by omega), xI_n (by omega), getD_of sj]
  rw [e]
  refine WRX.ret ?_
  exact reti_ok X hr hlk rfl (dk rfl) (⟨rfl, rfl, ⟨_, C3, H.set hj O.1 [i] _ _, O.set ⟨TW.name hi, Nat.le_of_ble_eq_true rfl⟩ j _ _⟩, (f2.frC C.1).trans f3⟩) (Nat.le_of_ble_eq_true rfl) (Nat.le_of_ble_eq_true rfl)
set_option maxHeartbeats 8000000 in
theorem s6_copy (h : AH) (hl : la.stackTraces = false) (Y : LYO B Q) {st : ST} (C0 : StC B Q P ox kn h st) (x1 x2 : Int32) : CTX la D cA B0 pa yX6_copy cX6_copy 5 (some .int) (rmD 7 2 12) [.ref ox, .int x1, .int x2] h (AP B Q P ox kn (aCopy x1 x2 st) h) (AX (aCopy x1 x2 st) st h) := by
  refine CTX_of (by decide +kernel) (Nat.le_of_ble_eq_true rfl) ?_
  intro p e s m args below meth c X E hr hlk hnm ht
  have dk : ∀ {pc : Nat} {q : Instr × Nat}, lkd DX6_copy pc = some q → decode cX6_copy pc = .ok q := lkd_ok DX6_copy_ok
  obtain ⟨F, C, H, O⟩ := id C0
  iterate 2 refine fst1_ok X (dk rfl) rfl ?_
  refine callVX_ok (ci := 8) (T := TX6) (N := 14) (av := [.int x1]) (r := []) X E ht hlk (s6_termOf h hl C x1) (fun E1 h1 z => AX.one (by unfold aCopy; rw [if_neg (by rw [okI_f z.2.1]; decide)]) ⟨z.1, z.2.2⟩) lkX6_termOf mlX6_69 lmX6_termOf lpX6_termOf ⟨Nat.le_of_ble_eq_true rfl, Nat.le_of_ble_eq_true rfl⟩ ⟨Nat.le_of_ble_eq_true rfl, Nat.le_of_ble_eq_true rfl⟩ rfl C.2.1 (Nat.le_of_ble_eq_true rfl) (dk rfl) ?_
  rintro _ h1 ⟨⟨j, hj, rfl, rfl⟩, eh⟩
  obtain rfl := eh.symm
  iterate 3 refine fst1_ok X (dk rfl) rfl ?_
  refine callVX_ok (ci := 8) (T := TX6) (N := 14) (av := [.int x2]) (r := []) X E ht hlk (s6_termOf _ hl C x2) (fun E1 h1 z => AX.one (by unfold aCopy; rw [if_pos (okI_t hj (by decide))]; rw [if_neg (by rw [okI_f z.2.1]; decide)]) ⟨z.1, z.2.2⟩) lkX6_termOf mlX6_69 lmX6_termOf lpX6_termOf ⟨Nat.le_of_ble_eq_true rfl, Nat.le_of_ble_eq_true rfl⟩ ⟨Nat.le_of_ble_eq_true rfl, Nat.le_of_ble_eq_true rfl⟩ rfl C.2.1 (Nat.le_of_ble_eq_true rfl) (dk rfl) ?_
  rintro _ h1 ⟨⟨i, hi, rfl, rfl⟩, eh⟩
  obtain rfl := eh.symm
  obtain ⟨nj, sj, ej, tj, wj, lj⟩ := H.slot O hj
  iterate 3 refine fst1_ok X (dk rfl) rfl ?_
  have hrm : rmI i = 16 := if_pos (by omega)
  refine callVT_ok (ci := 7) (T := TX5) (N := 3) (av := [.ref (B j)]) (r := []) X E (s5_becomeAs _ Y C.1 (i := i) (by omega) (j := j) (by omega) (by rw [tj.len, hrm]; exact lj)) lkX5_becomeAs mlX6_108 lmX5_becomeAs lpX5_becomeAs ⟨Nat.le_of_ble_eq_true rfl, Nat.le_of_ble_eq_true rfl⟩ ⟨Nat.le_of_ble_eq_true rfl, Nat.le_of_ble_eq_true rfl⟩ rfl (C.1 i (by omega)).2.1 (Nat.le_of_ble_eq_true rfl) (dk rfl) (fun h2 S2 f2 => ?_)
  rw [ej] at S2
  have C2 := C.tm Y S2 f2
  iterate 2 refine fst1_ok X (dk rfl) rfl ?_
  refine callVR_ok (ci := 7) (T := TX5) (N := 3) (av := []) (r := [.ref ox]) X E (s5_length h2 S2 (i := i) (by omega)) lkX5_length mlX6_76 lmX5_length lpX5_length ⟨Nat.le_of_ble_eq_true rfl, Nat.le_of_ble_eq_true rfl⟩ ⟨Nat.le_of_ble_eq_true rfl, Nat.le_of_ble_eq_true rfl⟩ rfl ⟨_, (S2 i (by omega)).2.1⟩ (Nat.le_of_ble_eq_true rfl) (dk rfl) ?_
  rintro _ rfl
  rw [upF_self, List.length_map]
  refine callV_ok (ci := 8) (T := TX6) (N := 14) (av := [vI nj.length]) (r := []) X E (s6_did h2 C2 _) lkX6_did mlX6_80 lmX6_did lpX6_did ⟨Nat.le_of_ble_eq_true rfl, Nat.le_of_ble_eq_true rfl⟩ ⟨Nat.le_of_ble_eq_true rfl, Nat.le_of_ble_eq_true rfl⟩ rfl C2.2.1 (Nat.le_of_ble_eq_true rfl) (dk rfl) ?_
  rintro _ h3 ⟨rfl, C3, f3⟩
  have e : aCopy (nI j) (nI i) st = slS st (st.1.set i nj) (nI nj.length) := by
    unfold aCopy
    rw [if_pos (okI_t hj (by decide)), if_pos (okI_t hi (by decide)), xI_n (by omega), xI_n (by omega), getD_of sj]
    unfold giveS
    rw [if_neg (by omega)]
  rw [e]
  refine WRX.ret ?_
  exact reti_ok X hr hlk rfl (dk rfl) (⟨rfl, rfl, ⟨_, C3, H.set hi O.1 nj _ _, O.set ⟨wj, lj⟩ i _ _⟩, (f2.frC C.1).trans f3⟩) (Nat.le_of_ble_eq_true rfl) (Nat.le_of_ble_eq_true rfl)
set_option maxHeartbeats 16000000 in
theorem s6_swap (h : AH) (hl : la.stackTraces = false) (Y : LYO B Q) {st : ST} (C0 : StC B Q P ox kn h st) (x1 x2 : Int32) : CTX la D cA B0 pa yX6_swap cX6_swap 6 (some .int) (rmD 7 2 12) [.ref ox, .int x1, .int x2] h (AP B Q P ox kn (aSwap x1 x2 st) h) (AX (aSwap x1 x2 st) st h) := by
  refine CTX_of (by decide +kernel) (Nat.le_of_ble_eq_true rfl) ?_
  intro p e s m args below meth c X E hr hlk hnm ht
  have dk : ∀ {pc : Nat} {q : Instr × Nat}, lkd DX6_swap pc = some q → decode cX6_swap pc = .ok q := lkd_ok DX6_swap_ok
  obtain ⟨F, C, H, O⟩ := id C0
  iterate 2 refine fst1_ok X (dk rfl) rfl ?_
  refine callVX_ok (ci := 8) (T := TX6) (N := 14) (av := [.int x1]) (r := []) X E ht hlk (s6_termOf h hl C x1) (fun E1 h1 z => AX.one (by unfold aSwap; rw [if_neg (by rw [okI_f z.2.1]; decide)]) ⟨z.1, z.2.2⟩) lkX6_termOf mlX6_69 lmX6_termOf lpX6_termOf ⟨Nat.le_of_ble_eq_true rfl, Nat.le_of_ble_eq_true rfl⟩ ⟨Nat.le_of_ble_eq_true rfl, Nat.le_of_ble_eq_true rfl⟩ rfl C.2.1 (Nat.le_of_ble_eq_true rfl) (dk rfl) ?_
  rintro _ h1 ⟨⟨j, hj, rfl, rfl⟩, eh⟩
  obtain rfl := eh.symm
  iterate 3 refine fst1_ok X (dk rfl) rfl ?_
  refine callVX_ok (ci := 8) (T := TX6) (N := 14) (av := [.int x2]) (r := []) X E ht hlk (s6_termOf _ hl C x2) (fun E1 h1 z => AX.one (by unfold aSwap; rw [if_pos (okI_t hj (by decide))]; rw [if_neg (by rw [okI_f z.2.1]; decide)]) ⟨z.1, z.2.2⟩) lkX6_termOf mlX6_69 lmX6_termOf lpX6_termOf ⟨Nat.le_of_ble_eq_true rfl, Nat.le_of_ble_eq_true rfl⟩ ⟨Nat.le_of_ble_eq_true rfl, Nat.le_of_ble_eq_true rfl⟩ rfl C.2.1 (Nat.le_of_ble_eq_true rfl) (dk rfl) ?_
  rintro _ h1 ⟨⟨i, hi, rfl, rfl⟩, eh⟩
  obtain rfl := eh.symm
  obtain ⟨nj, sj, ej, tj, wj, lj⟩ := H.slot O hj
  obtain ⟨ni, si, ei, ti, wi, li⟩ := H.slot O hi
  iterate 3 refine fst1_ok X (dk rfl) rfl ?_
  refine callVR_ok (ci := 7) (T := TX5) (N := 3) (av := [.ref (B i)]) (r := []) X E (s5_isLike _ C.1 (i := j) (by omega) tj (u := i) (by omega) ti wj.1 wi.1) lkX5_isLike mlX6_111 lmX5_isLike lpX5_isLike ⟨Nat.le_of_ble_eq_true rfl, Nat.le_of_ble_eq_true rfl⟩ ⟨Nat.le_of_ble_eq_true rfl, Nat.le_of_ble_eq_true rfl⟩ rfl ⟨_, (C.1 j (by omega)).2.1⟩ (Nat.le_of_ble_eq_true rfl) (dk rfl) ?_
  rintro _ rfl
  iterate 2 refine fst1_ok X (dk rfl) rfl ?_
  refine getf_ok X flX6_24 (dk rfl) C.2.1 rfl ?_
  refine fst1_ok X (dk rfl) rfl ?_
  refine callVT_ok (ci := 7) (T := TX5) (N := 3) (av := [.ref (B j)]) (r := []) X E (s5_becomeAs _ Y C.1 (i := 30) (by omega) (j := j) (by omega) (by rw [tj.len]; exact lj)) lkX5_becomeAs mlX6_108 lmX5_becomeAs lpX5_becomeAs ⟨Nat.le_of_ble_eq_true rfl, Nat.le_of_ble_eq_true rfl⟩ ⟨Nat.le_of_ble_eq_true rfl, Nat.le_of_ble_eq_true rfl⟩ rfl (C.1 30 (by omega)).2.1 (Nat.le_of_ble_eq_true rfl) (dk rfl) (fun h2 S2 f2 => ?_)
  have C2 := C.tm Y S2 f2
  iterate 2 refine fst1_ok X (dk rfl) rfl ?_
  have hrj : rmI j = 16 := if_pos (by omega)
  have hri : rmI i = 16 := if_pos (by omega)
  refine callVT_ok (ci := 7) (T := TX5) (N := 3) (av := [.ref (B i)]) (r := []) X E (s5_becomeAs h2 Y S2 (i := j) (by omega) (j := i) (by omega) (by rw [upF_ne _ _ (by omega), ti.len, hrj]; exact li)) lkX5_becomeAs mlX6_108 lmX5_becomeAs lpX5_becomeAs ⟨Nat.le_of_ble_eq_true rfl, Nat.le_of_ble_eq_true rfl⟩ ⟨Nat.le_of_ble_eq_true rfl, Nat.le_of_ble_eq_true rfl⟩ rfl (S2 j (by omega)).2.1 (Nat.le_of_ble_eq_true rfl) (dk rfl) (fun h3 S3 f3 => ?_)
  rw [upF_ne _ _ (show i ≠ 30 by omega)] at S3
  have C3 := C2.tm Y S3 f3
  iterate 2 refine fst1_ok X (dk rfl) rfl ?_
  refine getf_ok X flX6_24 (dk rfl) C3.2.1 rfl ?_
  have e30 : upF (upF F 30 (F j)) j (F i) 30 = F j := by rw [upF_ne _ _ (by omega), upF_self]
  refine callVT_ok (ci := 7) (T := TX5) (N := 3) (av := [.ref (B 30)]) (r := []) X E (s5_becomeAs h3 Y S3 (i := i) (by omega) (j := 30) (by omega) (by rw [e30, tj.len, hri]; exact lj)) lkX5_becomeAs mlX6_108 lmX5_becomeAs lpX5_becomeAs ⟨Nat.le_of_ble_eq_true rfl, Nat.le_of_ble_eq_true rfl⟩ ⟨Nat.le_of_ble_eq_true rfl, Nat.le_of_ble_eq_true rfl⟩ rfl (S3 i (by omega)).2.1 (Nat.le_of_ble_eq_true rfl) (dk rfl) (fun h4 S4 f4 => ?_)
  rw [e30, ei, ej] at S4
  have C4 := C3.tm Y S4 f4
  have H4 : FS (upF (upF (upF F 30 (nj.map nI, false)) j (ni.map nI, false)) i (nj.map nI, false)) ((st.1.set j ni).set i nj, st.2.1, st.2.2.1 + Int32.ofInt 1, st.2.2.2) := by
    have q1 := (upF_fs H (i := 30) (by omega) (nj.map nI, false)).set hj O.1 ni st.2.2.1 st.2.2.2
    exact q1.set hi (by show (st.1.set j ni).length = 6; rw [List.length_set]; exact O.1) nj _ _
  have O4 : StO ((st.1.set j ni).set i nj, st.2.1, st.2.2.1 + Int32.ofInt 1, st.2.2.2) := (O.set ⟨wi, li⟩ j st.2.2.1 st.2.2.2).set ⟨wj, lj⟩ i _ _
  have fin : ∀ (t : Int32), t = (if nj = ni then 0 else 1) → ∀ l : List (Nat × Value), WRX p la e (rmD 7 2 12) s m args below meth c D cA B0 6 (AP B Q P ox kn (aSwap (nI j) (nI i) st) h) (AX (aSwap (nI j) (nI i) st) st h) 55 l [.int t, .ref ox] h4 (0 + 1 + 1) (0 + 6 + 6) := by
    intro t ht0 l
    refine callV_ok (ci := 8) (T := TX6) (N := 14) (av := [.int t]) (r := []) X E (s6_did h4 C4 _) lkX6_did mlX6_80 lmX6_did lpX6_did ⟨Nat.le_of_ble_eq_true rfl, Nat.le_of_ble_eq_true rfl⟩ ⟨Nat.le_of_ble_eq_true rfl, Nat.le_of_ble_eq_true rfl⟩ rfl C4.2.1 (Nat.le_of_ble_eq_true rfl) (dk rfl) ?_
    rintro _ h5 ⟨rfl, C5, f5⟩
    have e : aSwap (nI j) (nI i) st = slS st ((st.1.set j ni).set i nj) t := by
      unfold aSwap
      rw [if_pos (okI_t hj (by decide)), if_pos (okI_t hi (by decide)), xI_n (by omega), xI_n (by omega), getD_of sj, getD_of si, ht0]
    rw [e]
    refine WRX.ret ?_
    exact reti_ok X hr hlk rfl (dk rfl) (⟨rfl, rfl, ⟨_, C5, H4, O4⟩, ((((f2.frC C.1).trans (f3.frC S2)).trans (f4.frC S3)).trans f5)⟩) (Nat.le_of_ble_eq_true rfl) (Nat.le_of_ble_eq_true rfl)
  iterate 2 refine fst1_ok X (dk rfl) rfl ?_
  by_cases hs : nj = ni
  · rw [decide_eq_true hs]
    refine br_ok X (dk rfl) rfl (show ((47 : Nat) : Int) + 7 = ((54 : Nat) : Int) from rfl) (fun q => absurd q bI_t) (fun _ => ?_)
    refine fst1_ok X (dk rfl) rfl ?_
    refine br_ok X (dk rfl) rfl (show ((51 : Nat) : Int) + 4 = ((55 : Nat) : Int) from rfl) (fun _ => ?_) (fun q => absurd trivial q)
    exact fin _ (by rw [if_pos hs]; rfl) _
  · rw [decide_eq_false hs]
    refine br_ok X (dk rfl) rfl (show ((47 : Nat) : Int) + 7 = ((54 : Nat) : Int) from rfl) (fun _ => ?_) (fun q => absurd bI_f' q)
    refine fst1_ok X (dk rfl) rfl ?_
    exact fin _ (by rw [if_neg hs]; rfl) _
end S08
