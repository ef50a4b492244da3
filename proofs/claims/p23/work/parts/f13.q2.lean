/-! the class's questions, exactly, further (printed by wip/q/genQ2.py) -/
theorem okI_neg {N : Nat} {x : Int32} (h : x < 0) : okI N x = false := by
  unfold okI
  rw [decide_eq_false (fun z => z h)]
  rfl
theorem okI_big {N j : Nat} (h : N ≤ j) (hj : j < 2 ^ 31) : okI N (nI j) = false := by
  unfold okI
  rw [nI_clamp hj, decide_eq_false (show ¬ j < N by omega), Bool.and_false]
theorem nI_at {a b : Nat} (ha : a < 2 ^ 31) (hb : b < 2 ^ 31) {x : Int32} (hx : x = nI b) (h : nI a = x) : a = b := nI_inj ha hb (h.trans hx)
def isB (q : Nat) (n m : List Nat) : Bool := if q = 0 then decide (n = m) else if q = 1 then decide (plP n = plP m) else (matchL m n).isSome
def aIs (x1 x2 x3 : Int32) (st : ST) : RS := if okI 6 x1 then (if okI 6 x2 then (if okI 3 x3 then ((0, bI (isB (xI x3) (st.1.getD (xI x1) []) (st.1.getD (xI x2) []))), st) else ((2, 0), st)) else ((1, 0), st)) else ((1, 0), st)
/-- whether two terms can be made alike -/
noncomputable def canB (x : Int32) (one other : List Nat) : Bool := by
  classical
  exact decide (∃ E, PEx x one other E)
theorem canB_of {x : Int32} {one other : List Nat} {b : Bool} (h : b = true ↔ ∃ E, PEx x one other E) : canB x one other = b := by
  refine Bool.eq_iff_iff.mpr (Iff.trans ?_ h.symm)
  unfold canB
  classical
  exact decide_eq_true_iff
theorem stepsB {one other : List Nat} (t1 : TW one ∧ one.length ≤ 16) (t2 : TW other ∧ other.length ≤ 16) {G : GS} {S : SS} (q1 : goF 40 one other none8 0 0 = some G) (q3 : S1 (one ++ other) S) (q4 : G.1 = smO (one ++ other) S) (q6 : G.2.2.1 = 0 → Ac (one ++ other) S) (q7 : runM (one ++ other) G.2.1 sN 0 [(0, one.length)] = some (S, G.2.2.1, G.2.1)) {x : Int32} (hx : x = 0) : decide (G.2.2.1 = 0) = true ↔ ∃ E, PEx x one other E := by
  constructor
  · intro z
    have hw := of_decide_eq_true z
    obtain ⟨bY, -, -⟩ := BY_of t1 t2
    have ac := q6 hw
    obtain ⟨E, hE⟩ := ExP.ex bY.1 q3 ac
    refine ⟨E, ?_⟩
    unfold PEx
    rw [if_pos hx]
    exact ⟨G, S, q1, hw, by rw [hw] at q7; exact q7, q3, ac, q4, hE⟩
  · rintro ⟨E, pe⟩
    unfold PEx at pe
    rw [if_pos hx] at pe
    obtain ⟨G2, S2, b1, b2, -⟩ := pe
    rw [q1] at b1
    cases b1
    exact decide_eq_true b2
theorem classesB {one other : List Nat} (t1 : TW one ∧ one.length ≤ 16) (t2 : TW other ∧ other.length ≤ 16) {b : Bool} (hb : b = true ↔ ∃ k, MnK (one ++ other) one.length k ∧ AcK (one ++ other) k) {x : Int32} (hx : ¬ x = 0) : b = true ↔ ∃ E, PEx x one other E := by
  refine hb.trans ⟨fun ⟨k, m, a⟩ => ?_, fun ⟨E, pe⟩ => ?_⟩
  · obtain ⟨E, pe⟩ := PEc.of t1 t2 m a
    exact ⟨E, by unfold PEx; rw [if_neg hx]; exact pe⟩
  · unfold PEx at pe
    rw [if_neg hx] at pe
    obtain ⟨k, S, m, a, -⟩ := pe
    exact ⟨k, m, a⟩
noncomputable def aCan (x1 x2 x3 : Int32) (st : ST) : RS := if okI 6 x1 then (if okI 6 x2 then (if x3 = 0 ∨ x3 = 1 then ((0, bI (canB x3 (st.1.getD (xI x1) []) (st.1.getD (xI x2) []))), st) else ((2, 0), st)) else ((1, 0), st)) else ((1, 0), st)
def aMakes (x1 x2 x3 : Int32) (st : ST) : RS := if okI 3 x1 then (if okI 6 x2 then (if okI 6 x3 then ((0, bI (decide (usedL (st.2.1.getD (xI x1) []) (st.1.getD (xI x2) []) = usedL (st.2.1.getD (xI x1) []) (st.1.getD (xI x3) [])))), st) else ((1, 0), st)) else ((1, 0), st)) else ((1, 0), st)
/-- the names that an answer tells of names -/
def metN (rows : List (List Nat)) : Nat → Nat
  | 0 => 0
  | k + 1 => if (rows.getD k []).length = 1 then metN rows k ||| namesN (rows.getD k []) else metN rows k
def soB (x : Int32) (rows : List (List Nat)) : Bool := if x = 0 then decide (behL rows rows = rows) else decide (bcF (nI (metN rows 8)) = nI 8)
def aIsSo (x1 x2 : Int32) (st : ST) : RS := if okI 3 x1 then (if x2 = 0 ∨ x2 = 1 then ((0, bI (soB x2 (st.2.1.getD (xI x1) []))), st) else ((2, 0), st)) else ((1, 0), st)
theorem RWX.cg {F F' : Nat → TC} {f : Nat} {rows : List (List Nat)} (H : RWX F f rows) (e : ∀ n, n < 8 → F' (f + n) = F (f + n)) : RWX F' f rows := ⟨H.1, fun n hn => by
  obtain ⟨ns, g1, g2, g3⟩ := H.2 n hn
  exact ⟨ns, g1, by rw [e n hn]; exact g2, g3⟩⟩
theorem used_256 {rows : List (List Nat)} (H : AO rows) {ns : List Nat} (hl : ns.length ≤ 16) : (usedL rows ns).length ≤ 256 := by
  have := usedL_len rows (M := 16) (fun z hz => (H.2 z hz).2) (by omega) ns
  omega
theorem addR_wide {zs : List Nat} (h : zs.length ≤ 256) : addR 256 ([], false) (zs.map nI) = (zs.map nI, false) := by
  rw [addR_fit (by show 0 + (zs.map nI).length ≤ 256; rw [List.length_map]; omega)]
  exact Prod.ext (List.nil_append _) rfl
theorem ulN_none {r1 r2 : List (List Nat)} (l1 : r1.length = 8) (l2 : r2.length = 8) : ulN r1 r2 = none ↔ r1 = r2 := by
  have gd : ∀ (r : List (List Nat)) (i : Nat), r.getD i [] = (r[i]?).getD [] := fun r i => List.getD_eq_getElem?_getD
  constructor
  · intro h
    have key : ∀ i, i < 8 → r1.getD i [] = r2.getD i [] := fun i hi => by
      rcases Decidable.em (r1.getD i [] = r2.getD i []) with z | z
      · exact z
      · have hne : ∀ (n k : Nat), k ≤ i → i < k + n → fsF (fun k => decide (r1.getD k [] ≠ r2.getD k [])) n k ≠ none := by
          intro n
          induction n with
          | zero => intro k h1 h2; omega
          | succ n ih =>
            intro k h1 h2
            unfold fsF
            split
            · intro z; cases z
            · rename_i c
              refine ih (k + 1) ?_ (by omega)
              rcases Nat.lt_or_ge k i with q | q
              · omega
              · exact absurd (decide_eq_true (by rw [show k = i by omega]; exact z)) c
        exact absurd h (hne 8 0 (by omega) (by omega))
    refine List.ext_getElem? (fun i => ?_)
    rcases Nat.lt_or_ge i 8 with z | z
    · have := key i z
      rw [gd, gd, List.getElem?_eq_getElem (by omega), List.getElem?_eq_getElem (by omega)] at this
      rw [List.getElem?_eq_getElem (by omega), List.getElem?_eq_getElem (by omega)]
      exact congrArg some this
    · rw [List.getElem?_eq_none (by omega), List.getElem?_eq_none (by omega)]
  · intro h
    subst h
    exact fsF_no (fun i hi => decide_eq_false (fun z => z rfl))
section Q13
variable {la : Launch} {D : va_G} {cA : Nat → ClassId} {B0 pa : Nat} {B Q P : Nat → Nat} {ox : Nat} {kn d r : Int32} {F : Nat → TC}
set_option maxHeartbeats 32000000 in
theorem s6_is (h : AH) (hl : la.stackTraces = false) (Y : LYO B Q) {st : ST} (C0 : StC B Q P ox kn h st) (x1 x2 x3 : Int32) : CTX la D cA B0 pa yX6_is cX6_is 6 (some .boolean) (rmD 7 3 18) [.ref ox, .int x1, .int x2, .int x3] h (AP B Q P ox kn (aIs x1 x2 x3 st) h) (AX (aIs x1 x2 x3 st) st h) := by
  refine CTX_of (by decide +kernel) (Nat.le_of_ble_eq_true rfl) ?_
  intro p e s m args below meth c X E hr hlk hnm ht
  have dk : ∀ {pc : Nat} {q : Instr × Nat}, lkd DX6_is pc = some q → decode cX6_is pc = .ok q := lkd_ok DX6_is_ok
  obtain ⟨F, C, H, O⟩ := id C0
  iterate 2 refine fst1_ok X (dk rfl) rfl ?_
  refine callVX_ok (ci := 8) (T := TX6) (N := 14) (av := [.int x1]) (r := []) X E ht hlk (s6_termOf h hl C x1) (fun E1 h1 z => AX.one (by unfold aIs; rw [if_neg (by rw [okI_f z.2.1]; decide)]) ⟨z.1, z.2.2⟩) lkX6_termOf mlX6_69 lmX6_termOf lpX6_termOf ⟨Nat.le_of_ble_eq_true rfl, Nat.le_of_ble_eq_true rfl⟩ ⟨Nat.le_of_ble_eq_true rfl, Nat.le_of_ble_eq_true rfl⟩ rfl C.2.1 (Nat.le_of_ble_eq_true rfl) (dk rfl) ?_
  rintro _ h1 ⟨⟨j, hj, rfl, rfl⟩, eh⟩
  obtain rfl := eh.symm
  iterate 3 refine fst1_ok X (dk rfl) rfl ?_
  refine callVX_ok (ci := 8) (T := TX6) (N := 14) (av := [.int x2]) (r := []) X E ht hlk (s6_termOf _ hl C x2) (fun E1 h1 z => AX.one (by unfold aIs; rw [if_pos (okI_t hj (by decide))]; rw [if_neg (by rw [okI_f z.2.1]; decide)]) ⟨z.1, z.2.2⟩) lkX6_termOf mlX6_69 lmX6_termOf lpX6_termOf ⟨Nat.le_of_ble_eq_true rfl, Nat.le_of_ble_eq_true rfl⟩ ⟨Nat.le_of_ble_eq_true rfl, Nat.le_of_ble_eq_true rfl⟩ rfl C.2.1 (Nat.le_of_ble_eq_true rfl) (dk rfl) ?_
  rintro _ h1 ⟨⟨i, hi, rfl, rfl⟩, eh⟩
  obtain rfl := eh.symm
  obtain ⟨nj, sj, ej, tj, wj, lj⟩ := H.slot O hj
  obtain ⟨ni, si, ei, ti, wi, li⟩ := H.slot O hi
  iterate 2 refine fst1_ok X (dk rfl) rfl ?_
  refine br_ok X (dk rfl) rfl (show ((15 : Nat) : Int) + 8 = ((23 : Nat) : Int) from rfl) (fun c0 => ?_) (fun c0 => ?_)
  · exact throwS_ok X E hl ht hlk xwX6_88 (List.mem_of_getElem? (i := 2) rfl) (dk rfl) (dk rfl) (dk rfl) (dk rfl) (dk rfl) ⟨Nat.le_of_ble_eq_true rfl, Nat.le_of_ble_eq_true rfl⟩ ⟨Nat.le_of_ble_eq_true rfl, Nat.le_of_ble_eq_true rfl⟩ (AX.two (by unfold aIs; rw [if_pos (okI_t hj (by decide)), if_pos (okI_t hi (by decide)), if_neg (by rw [okI_neg c0]; decide)]) ⟨rfl, rfl⟩)
  · obtain ⟨q9, hq9, rfl⟩ := nI_of c0
    iterate 2 refine fst1_ok X (dk rfl) rfl ?_
    refine br_ok X (dk rfl) rfl (show ((20 : Nat) : Int) + 13 = ((33 : Nat) : Int) from rfl) (fun c1 => ?_) (fun c1 => ?_)
    · rw [nI_2] at c1
      have q2 : q9 ≤ 2 := (nI_leI (by omega) (by omega)).mp c1
      have e : aIs (nI j) (nI i) (nI q9) st = ((0, bI (isB q9 nj ni)), st) := by
        unfold aIs
        rw [if_pos (okI_t hj (by decide)), if_pos (okI_t hi (by decide)), if_pos (okI_t (show q9 < 3 by omega) (by decide)), xI_n (by omega), xI_n (by omega), xI_n (by omega), getD_of sj, getD_of si]
      refine fst1_ok X (dk rfl) rfl ?_
      refine br_ok X (dk rfl) rfl (show ((34 : Nat) : Int) + 11 = ((45 : Nat) : Int) from rfl) (fun c2 => ?_) (fun c2 => ?_)
      · iterate 2 refine fst1_ok X (dk rfl) rfl ?_
        refine br_ok X (dk rfl) rfl (show ((47 : Nat) : Int) + 15 = ((62 : Nat) : Int) from rfl) (fun c3 => ?_) (fun c3 => ?_)
        · have q0 : q9 = 1 := by
            have z0 : q9 ≠ 0 := fun z => c2 (by rw [z]; decide)
            have z2 : q9 ≠ 2 := fun z => c3 (by rw [z, nI_2])
            omega
          subst q0
          obtain ⟨wp1, lp1⟩ := wj.pl8
          obtain ⟨wp2, lp2⟩ := wi.pl8
          refine fst1_ok X (dk rfl) rfl ?_
          refine getf_ok X flX6_24 (dk rfl) C.2.1 rfl ?_
          refine fst1_ok X (dk rfl) rfl ?_
          refine callVT_ok (ci := 7) (T := TX5) (N := 3) (av := [.ref (B j)]) (r := []) X E (s5_becomePlainOf _ Y C.1 (i := 30) (by omega) (j := j) (by omega) (by omega) tj (by rw [show rmI 30 = 16 from rfl]; exact lj)) lkX5_becomePlainOf mlX6_148 lmX5_becomePlainOf lpX5_becomePlainOf ⟨Nat.le_of_ble_eq_true rfl, Nat.le_of_ble_eq_true rfl⟩ ⟨Nat.le_of_ble_eq_true rfl, Nat.le_of_ble_eq_true rfl⟩ rfl (C.1 30 (by omega)).2.1 (Nat.le_of_ble_eq_true rfl) (dk rfl) (fun h2 S2 f2 => ?_)
          have C2 := C.tm Y S2 f2
          refine fst1_ok X (dk rfl) rfl ?_
          refine getf_ok X flX6_28 (dk rfl) C2.2.1 rfl ?_
          refine fst1_ok X (dk rfl) rfl ?_
          refine callVT_ok (ci := 7) (T := TX5) (N := 3) (av := [.ref (B i)]) (r := []) X E (s5_becomePlainOf h2 Y S2 (i := 31) (by omega) (j := i) (by omega) (by omega) (ns := ni) (by rw [upF_ne _ _ (by omega)]; exact ti) (by rw [show rmI 31 = 16 from rfl]; exact li)) lkX5_becomePlainOf mlX6_148 lmX5_becomePlainOf lpX5_becomePlainOf ⟨Nat.le_of_ble_eq_true rfl, Nat.le_of_ble_eq_true rfl⟩ ⟨Nat.le_of_ble_eq_true rfl, Nat.le_of_ble_eq_true rfl⟩ rfl (S2 31 (by omega)).2.1 (Nat.le_of_ble_eq_true rfl) (dk rfl) (fun h3 S3 f3 => ?_)
          have C3 := C2.tm Y S3 f3
          refine fst1_ok X (dk rfl) rfl ?_
          refine getf_ok X flX6_24 (dk rfl) C3.2.1 rfl ?_
          refine fst1_ok X (dk rfl) rfl ?_
          refine getf_ok X flX6_28 (dk rfl) C3.2.1 rfl ?_
          refine callVR_ok (ci := 7) (T := TX5) (N := 3) (av := [.ref (B 31)]) (r := []) X E (s5_isLike h3 S3 (i := 30) (by omega) (ns := plP nj) (by rw [upF_ne _ _ (by omega), upF_self]; exact ⟨rfl, wp1.2⟩) (u := 31) (by omega) (ms := plP ni) (by rw [upF_self]; exact ⟨rfl, wp2.2⟩) wp1.1 wp2.1) lkX5_isLike mlX6_111 lmX5_isLike lpX5_isLike ⟨Nat.le_of_ble_eq_true rfl, Nat.le_of_ble_eq_true rfl⟩ ⟨Nat.le_of_ble_eq_true rfl, Nat.le_of_ble_eq_true rfl⟩ rfl ⟨_, (S3 30 (by omega)).2.1⟩ (Nat.le_of_ble_eq_true rfl) (dk rfl) ?_
          rintro _ rfl
          rw [e]
          refine WRX.ret ?_
          exact reti_ok X hr hlk (bI_n _) (dk rfl) (⟨rfl, rfl, ⟨_, C3, upF_fs (upF_fs H (i := 30) (by omega) _) (i := 31) (by omega) _, O⟩, (f2.frC C.1).trans (f3.frC S2)⟩) (Nat.le_of_ble_eq_true rfl) (Nat.le_of_ble_eq_true rfl)
        · have q0 : q9 = 2 := nI_at (b := 2) (by omega) (by decide) nI_2 (Decidable.not_not.mp c3)
          subst q0
          have oa := C.2.2.1.2.2.2.1
          refine fst1_ok X (dk rfl) rfl ?_
          refine getf_ok X flX6_38 (dk rfl) C.2.1 rfl ?_
          iterate 2 refine fst1_ok X (dk rfl) rfl ?_
          refine callV_ok (ci := 2) (T := TX0) (N := 1) (av := [.ref (B i), .ref (B j)]) (r := []) X E (s0_becomeMatch _ Y C.1 oa (fun n hn => by unfold rmI; rw [if_neg (by omega), if_neg (by omega), if_pos (by omega)]) (i1 := i) (by omega) ti (by omega) (i2 := j) (by omega) tj (by omega) wj lj) lkX0_becomeMatch mlX6_194 lmX0_becomeMatch lpX0_becomeMatch ⟨Nat.le_of_ble_eq_true rfl, Nat.le_of_ble_eq_true rfl⟩ ⟨Nat.le_of_ble_eq_true rfl, Nat.le_of_ble_eq_true rfl⟩ rfl oa.2.choose_spec.1 (Nat.le_of_ble_eq_true rfl) (dk rfl) ?_
          rintro _ h2 ⟨rfl, f2, G, S2, g2⟩
          have C2 := C.tm Y S2 f2
          rw [e]
          refine WRX.ret ?_
          exact reti_ok X hr hlk (bI_n _) (dk rfl) (⟨rfl, rfl, ⟨_, C2, upK_fs H (by omega) _, O⟩, f2.frC C.1⟩) (Nat.le_of_ble_eq_true rfl) (Nat.le_of_ble_eq_true rfl)
      · have q0 : q9 = 0 := nI_at (b := 0) (by omega) (by decide) (by decide) (Decidable.not_not.mp c2)
        subst q0
        iterate 2 refine fst1_ok X (dk rfl) rfl ?_
        refine callVR_ok (ci := 7) (T := TX5) (N := 3) (av := [.ref (B i)]) (r := []) X E (s5_isLike _ C.1 (i := j) (by omega) tj (u := i) (by omega) ti wj.1 wi.1) lkX5_isLike mlX6_111 lmX5_isLike lpX5_isLike ⟨Nat.le_of_ble_eq_true rfl, Nat.le_of_ble_eq_true rfl⟩ ⟨Nat.le_of_ble_eq_true rfl, Nat.le_of_ble_eq_true rfl⟩ rfl ⟨_, (C.1 j (by omega)).2.1⟩ (Nat.le_of_ble_eq_true rfl) (dk rfl) ?_
        rintro _ rfl
        rw [e]
        refine WRX.ret ?_
        exact reti_ok X hr hlk (bI_n _) (dk rfl) (⟨rfl, rfl, ⟨F, C, H, O⟩, FrC.rf _⟩) (Nat.le_of_ble_eq_true rfl) (Nat.le_of_ble_eq_true rfl)
    · exact throwS_ok X E hl ht hlk xwX6_88 (List.mem_of_getElem? (i := 2) rfl) (dk rfl) (dk rfl) (dk rfl) (dk rfl) (dk rfl) ⟨Nat.le_of_ble_eq_true rfl, Nat.le_of_ble_eq_true rfl⟩ ⟨Nat.le_of_ble_eq_true rfl, Nat.le_of_ble_eq_true rfl⟩ (AX.two (by unfold aIs; rw [if_pos (okI_t hj (by decide)), if_pos (okI_t hi (by decide)), if_neg (by rw [okI_big (by rcases Nat.lt_or_ge 2 q9 with z | z; exact z; exact absurd ((nI_leI (by omega) (by omega)).mpr z) (by rw [← nI_2]; exact c1)) hq9]; decide)]) ⟨rfl, rfl⟩)
set_option maxHeartbeats 32000000 in
theorem s6_can (h : AH) (hl : la.stackTraces = false) (Y : LYO B Q) {st : ST} (C0 : StC B Q P ox kn h st) (x1 x2 x3 : Int32) : CTX la D cA B0 pa yX6_can cX6_can 6 (some .boolean) (rmD 7 3 18) [.ref ox, .int x1, .int x2, .int x3] h (AP B Q P ox kn (aCan x1 x2 x3 st) h) (AX (aCan x1 x2 x3 st) st h) := by
  refine CTX_of (by decide +kernel) (Nat.le_of_ble_eq_true rfl) ?_
  intro p e s m args below meth c X E hr hlk hnm ht
  have dk : ∀ {pc : Nat} {q : Instr × Nat}, lkd DX6_can pc = some q → decode cX6_can pc = .ok q := lkd_ok DX6_can_ok
  obtain ⟨F, C, H, O⟩ := id C0
  iterate 2 refine fst1_ok X (dk rfl) rfl ?_
  refine callVX_ok (ci := 8) (T := TX6) (N := 14) (av := [.int x1]) (r := []) X E ht hlk (s6_termOf h hl C x1) (fun E1 h1 z => AX.one (by unfold aCan; rw [if_neg (by rw [okI_f z.2.1]; decide)]) ⟨z.1, z.2.2⟩) lkX6_termOf mlX6_69 lmX6_termOf lpX6_termOf ⟨Nat.le_of_ble_eq_true rfl, Nat.le_of_ble_eq_true rfl⟩ ⟨Nat.le_of_ble_eq_true rfl, Nat.le_of_ble_eq_true rfl⟩ rfl C.2.1 (Nat.le_of_ble_eq_true rfl) (dk rfl) ?_
  rintro _ h1 ⟨⟨j, hj, rfl, rfl⟩, eh⟩
  obtain rfl := eh.symm
  iterate 3 refine fst1_ok X (dk rfl) rfl ?_
  refine callVX_ok (ci := 8) (T := TX6) (N := 14) (av := [.int x2]) (r := []) X E ht hlk (s6_termOf _ hl C x2) (fun E1 h1 z => AX.one (by unfold aCan; rw [if_pos (okI_t hj (by decide))]; rw [if_neg (by rw [okI_f z.2.1]; decide)]) ⟨z.1, z.2.2⟩) lkX6_termOf mlX6_69 lmX6_termOf lpX6_termOf ⟨Nat.le_of_ble_eq_true rfl, Nat.le_of_ble_eq_true rfl⟩ ⟨Nat.le_of_ble_eq_true rfl, Nat.le_of_ble_eq_true rfl⟩ rfl C.2.1 (Nat.le_of_ble_eq_true rfl) (dk rfl) ?_
  rintro _ h1 ⟨⟨i, hi, rfl, rfl⟩, eh⟩
  obtain rfl := eh.symm
  obtain ⟨nj, sj, ej, tj, wj, lj⟩ := H.slot O hj
  obtain ⟨ni, si, ei, ti, wi, li⟩ := H.slot O hi
  have t1 : TW nj ∧ nj.length ≤ 16 := ⟨wj, lj⟩
  have t2 : TW ni ∧ ni.length ≤ 16 := ⟨wi, li⟩
  iterate 2 refine fst1_ok X (dk rfl) rfl ?_
  refine br_ok X (dk rfl) rfl (show ((15 : Nat) : Int) + 18 = ((33 : Nat) : Int) from rfl) (fun c0 => ?_) (fun c0 => ?_)
  · have h4 : x3 = 0 ∨ x3 = 1 := Or.inl c0
    obtain ⟨Gs, Sx, q1, q2, q3, q4, q5, q6, q7⟩ := runM_ok t1 t2
    have hcb := stepsB t1 t2 q1 q3 q4 q6 q7 c0
    have e : aCan (nI j) (nI i) x3 st = ((0, bI (decide (Gs.2.2.1 = 0))), st) := by
      unfold aCan
      rw [if_pos (okI_t hj (by decide)), if_pos (okI_t hi (by decide)), if_pos h4, xI_n (by omega), xI_n (by omega), getD_of sj, getD_of si, canB_of hcb]
    refine fst1_ok X (dk rfl) rfl ?_
    refine br_ok X (dk rfl) rfl (show ((34 : Nat) : Int) + 17 = ((51 : Nat) : Int) from rfl) (fun q => absurd c0 q) (fun _ => ?_)
    refine fst1_ok X (dk rfl) rfl ?_
    refine getf_ok X flX6_48 (dk rfl) C.2.1 rfl ?_
    iterate 2 refine fst1_ok X (dk rfl) rfl ?_
    refine callV_ok (ci := 6) (T := TX4) (N := 5) (av := [.ref (B j), .ref (B i)]) (r := []) X E (s4_makeAlike _ Y C (i1 := j) (by omega) (by omega) (i2 := i) (by omega) (by omega) tj ti t1 t2 q7 q5 q2.1) lkX4_makeAlike mlX6_185 lmX4_makeAlike lpX4_makeAlike ⟨Nat.le_of_ble_eq_true rfl, Nat.le_of_ble_eq_true rfl⟩ ⟨Nat.le_of_ble_eq_true rfl, Nat.le_of_ble_eq_true rfl⟩ rfl C.2.2.2.1.choose_spec.choose_spec (Nat.le_of_ble_eq_true rfl) (dk rfl) ?_
    rintro _ h2 ⟨rfl, f2, F2, ps, C2, eF, T2⟩
    have H2 : FS F2 st := H.cg (fun n hn => eF n (by omega))
    refine br_ok X (dk rfl) rfl (show ((48 : Nat) : Int) + 14 = ((62 : Nat) : Int) from rfl) (fun _ => ?_) (fun q => absurd trivial q)
    rw [e]
    refine WRX.ret ?_
    exact reti_ok X hr hlk (bI_n _) (dk rfl) (⟨rfl, rfl, ⟨F2, C2, H2, O⟩, f2⟩) (Nat.le_of_ble_eq_true rfl) (Nat.le_of_ble_eq_true rfl)
  · iterate 2 refine fst1_ok X (dk rfl) rfl ?_
    refine br_ok X (dk rfl) rfl (show ((20 : Nat) : Int) + 13 = ((33 : Nat) : Int) from rfl) (fun c1 => ?_) (fun c1 => ?_)
    · have h4 : x3 = 0 ∨ x3 = 1 := Or.inr c1
      refine fst1_ok X (dk rfl) rfl ?_
      refine br_ok X (dk rfl) rfl (show ((34 : Nat) : Int) + 17 = ((51 : Nat) : Int) from rfl) (fun _ => ?_) (fun q => absurd c0 q)
      refine fst1_ok X (dk rfl) rfl ?_
      refine getf_ok X flX6_55 (dk rfl) C.2.1 rfl ?_
      iterate 2 refine fst1_ok X (dk rfl) rfl ?_
      refine callV_ok (ci := 3) (T := TX1) (N := 5) (av := [.ref (B j), .ref (B i)]) (r := []) X E (s1_makeAlike _ Y C (i1 := j) (by omega) (by omega) (i2 := i) (by omega) (by omega) tj ti t1 t2) lkX1_makeAlike mlX6_189 lmX1_makeAlike lpX1_makeAlike ⟨Nat.le_of_ble_eq_true rfl, Nat.le_of_ble_eq_true rfl⟩ ⟨Nat.le_of_ble_eq_true rfl, Nat.le_of_ble_eq_true rfl⟩ rfl C.2.2.2.2.1 (Nat.le_of_ble_eq_true rfl) (dk rfl) ?_
      rintro _ h2 ⟨b, rfl, hb, f2, F2, C2, eF, T2⟩
      have H2 : FS F2 st := H.cg (fun n hn => eF n (by omega))
      have hcb := classesB t1 t2 hb c0
      have e : aCan (nI j) (nI i) x3 st = ((0, bI b), st) := by
        unfold aCan
        rw [if_pos (okI_t hj (by decide)), if_pos (okI_t hi (by decide)), if_pos h4, xI_n (by omega), xI_n (by omega), getD_of sj, getD_of si, canB_of hcb]
      rw [e]
      refine WRX.ret ?_
      exact reti_ok X hr hlk (bI_n _) (dk rfl) (⟨rfl, rfl, ⟨F2, C2, H2, O⟩, f2⟩) (Nat.le_of_ble_eq_true rfl) (Nat.le_of_ble_eq_true rfl)
    · exact throwS_ok X E hl ht hlk xwX6_88 (List.mem_of_getElem? (i := 1) rfl) (dk rfl) (dk rfl) (dk rfl) (dk rfl) (dk rfl) ⟨Nat.le_of_ble_eq_true rfl, Nat.le_of_ble_eq_true rfl⟩ ⟨Nat.le_of_ble_eq_true rfl, Nat.le_of_ble_eq_true rfl⟩ (AX.two (by unfold aCan; rw [if_pos (okI_t hj (by decide)), if_pos (okI_t hi (by decide)), if_neg (fun z => z.elim c0 c1)]) ⟨rfl, rfl⟩)
set_option maxHeartbeats 32000000 in
theorem s6_isMade (h : AH) (Y : LYO B Q) (C : CLS B Q P ox kn h F d r) {oo f : Nat} (OA : AnO B h oo f) (hf : f + 8 ≤ 32 ∨ 34 ≤ f) {rows : List (List Nat)} (R : RWX F f rows) {j : Nat} (hj : j < 30) {n1 : List Nat} (tj : TN (F j) n1) (w1 : TW n1) (l1 : n1.length ≤ 16) {i : Nat} (hi : i < 30) {n2 : List Nat} (ti : TN (F i) n2) (w2 : TW n2) (l2 : n2.length ≤ 16) : CT la D cA B0 pa yX6_isMadeAlikeBy cX6_isMadeAlikeBy 4 (some .boolean) (rmD 4 0 0) [.ref ox, .ref oo, .ref (B j), .ref (B i)] h (fun v h' => v = some (.int (bI (decide (usedL rows n1 = usedL rows n2)))) ∧ ∃ F', CLS B Q P ox kn h' F' d r ∧ (∀ q, q ≠ 32 → q ≠ 33 → F' q = F q) ∧ FrC h h') := by
  refine CT_of (by decide +kernel) (Nat.le_of_ble_eq_true rfl) ?_
  intro p e s m args below meth c X E hr hlk hnm
  have dk : ∀ {pc : Nat} {q : Instr × Nat}, lkd DX6_isMadeAlikeBy pc = some q → decode cX6_isMadeAlikeBy pc = .ok q := lkd_ok DX6_isMadeAlikeBy_ok
  refine fst1_ok X (dk rfl) rfl ?_
  refine getf_ok X flX6_31 (dk rfl) C.2.1 rfl ?_
  refine callVT_ok (ci := 7) (T := TX5) (N := 3) (av := []) (r := []) X E (s5_empty _ Y C.1 (i := 32) (by omega)) lkX5_empty mlX6_94 lmX5_empty lpX5_empty ⟨Nat.le_of_ble_eq_true rfl, Nat.le_of_ble_eq_true rfl⟩ ⟨Nat.le_of_ble_eq_true rfl, Nat.le_of_ble_eq_true rfl⟩ rfl (C.1 32 (by omega)).2.1 (Nat.le_of_ble_eq_true rfl) (dk rfl) (fun h2 S2 f2 => ?_)
  have C2 := C.tm Y S2 f2
  have oa2 := OA.keep C.1 f2
  have tj2 : TN (upF F 32 ([], false) j) n1 := by rw [upF_ne _ _ (by omega)]; exact tj
  have rk2 : RWX (upF F 32 ([], false)) f rows := R.cg (fun n hn => upF_ne _ _ (by omega))
  have u1 := used_256 R.ao l1
  have u2 := used_256 R.ao l2
  iterate 4 refine fst1_ok X (dk rfl) rfl ?_
  refine callVR_ok (ci := 7) (T := TX5) (N := 3) (av := []) (r := [vI 0, .ref (B j), .ref oo]) X E (s5_length h2 S2 (i := j) (by omega)) lkX5_length mlX6_76 lmX5_length lpX5_length ⟨Nat.le_of_ble_eq_true rfl, Nat.le_of_ble_eq_true rfl⟩ ⟨Nat.le_of_ble_eq_true rfl, Nat.le_of_ble_eq_true rfl⟩ rfl ⟨_, (S2 j (by omega)).2.1⟩ (Nat.le_of_ble_eq_true rfl) (dk rfl) ?_
  rintro _ rfl
  rw [tj2.len]
  refine fst1_ok X (dk rfl) rfl ?_
  refine getf_ok X flX6_31 (dk rfl) C2.2.1 rfl ?_
  refine callVT_ok (ci := 2) (T := TX0) (N := 1) (av := [.ref (B j), vI 0, vI n1.length, .ref (B 32)]) (r := []) X E (s0_addUsed h2 Y S2 oa2 (i1 := j) (by omega) tj2 (i2 := 32) (by omega) (by omega) (by omega) (Nat.zero_le _) (Nat.le_refl _)) lkX0_addUsed mlX6_155 lmX0_addUsed lpX0_addUsed ⟨Nat.le_of_ble_eq_true rfl, Nat.le_of_ble_eq_true rfl⟩ ⟨Nat.le_of_ble_eq_true rfl, Nat.le_of_ble_eq_true rfl⟩ rfl oa2.2.choose_spec.1 (Nat.le_of_ble_eq_true rfl) (dk rfl) (fun h3 S3 f3 => ?_)
  rw [List.drop_zero, Nat.sub_zero, List.take_length, auC_rows rk2 n1 _ w1.2 (by rw [upF_self]; exact Nat.zero_le _), upF_self, upF_up, show rmI 32 = 256 from rfl, addR_wide u1] at S3
  have C3 := C2.tm Y S3 f3
  have oa3 := oa2.keep S2 f3
  refine fst1_ok X (dk rfl) rfl ?_
  refine getf_ok X flX6_34 (dk rfl) C3.2.1 rfl ?_
  refine callVT_ok (ci := 7) (T := TX5) (N := 3) (av := []) (r := []) X E (s5_empty h3 Y S3 (i := 33) (by omega)) lkX5_empty mlX6_94 lmX5_empty lpX5_empty ⟨Nat.le_of_ble_eq_true rfl, Nat.le_of_ble_eq_true rfl⟩ ⟨Nat.le_of_ble_eq_true rfl, Nat.le_of_ble_eq_true rfl⟩ rfl (S3 33 (by omega)).2.1 (Nat.le_of_ble_eq_true rfl) (dk rfl) (fun h4 S4 f4 => ?_)
  have C4 := C3.tm Y S4 f4
  have oa4 := oa3.keep S3 f4
  have ti4 : TN (upF (upF F 32 ((usedL rows n1).map nI, false)) 33 ([], false) i) n2 := by rw [upF_ne _ _ (by omega), upF_ne _ _ (by omega)]; exact ti
  have rk4 : RWX (upF (upF F 32 ((usedL rows n1).map nI, false)) 33 ([], false)) f rows := R.cg (fun n hn => by rw [upF_ne _ _ (by omega), upF_ne _ _ (by omega)])
  iterate 4 refine fst1_ok X (dk rfl) rfl ?_
  refine callVR_ok (ci := 7) (T := TX5) (N := 3) (av := []) (r := [vI 0, .ref (B i), .ref oo]) X E (s5_length h4 S4 (i := i) (by omega)) lkX5_length mlX6_76 lmX5_length lpX5_length ⟨Nat.le_of_ble_eq_true rfl, Nat.le_of_ble_eq_true rfl⟩ ⟨Nat.le_of_ble_eq_true rfl, Nat.le_of_ble_eq_true rfl⟩ rfl ⟨_, (S4 i (by omega)).2.1⟩ (Nat.le_of_ble_eq_true rfl) (dk rfl) ?_
  rintro _ rfl
  rw [ti4.len]
  refine fst1_ok X (dk rfl) rfl ?_
  refine getf_ok X flX6_34 (dk rfl) C4.2.1 rfl ?_
  refine callVT_ok (ci := 2) (T := TX0) (N := 1) (av := [.ref (B i), vI 0, vI n2.length, .ref (B 33)]) (r := []) X E (s0_addUsed h4 Y S4 oa4 (i1 := i) (by omega) ti4 (i2 := 33) (by omega) (by omega) (by omega) (Nat.zero_le _) (Nat.le_refl _)) lkX0_addUsed mlX6_155 lmX0_addUsed lpX0_addUsed ⟨Nat.le_of_ble_eq_true rfl, Nat.le_of_ble_eq_true rfl⟩ ⟨Nat.le_of_ble_eq_true rfl, Nat.le_of_ble_eq_true rfl⟩ rfl oa4.2.choose_spec.1 (Nat.le_of_ble_eq_true rfl) (dk rfl) (fun h5 S5 f5 => ?_)
  rw [List.drop_zero, Nat.sub_zero, List.take_length, auC_rows rk4 n2 _ w2.2 (by rw [upF_self]; exact Nat.zero_le _), upF_self, upF_up, show rmI 33 = 256 from rfl, addR_wide u2] at S5
  have C5 := C4.tm Y S5 f5
  refine fst1_ok X (dk rfl) rfl ?_
  refine getf_ok X flX6_31 (dk rfl) C5.2.1 rfl ?_
  refine fst1_ok X (dk rfl) rfl ?_
  refine getf_ok X flX6_34 (dk rfl) C5.2.1 rfl ?_
  refine callVR_ok (ci := 7) (T := TX5) (N := 3) (av := [.ref (B 33)]) (r := []) X E (s5_isLike h5 S5 (i := 32) (by omega) (ns := usedL rows n1) (by rw [upF_ne _ _ (by omega), upF_self]; exact ⟨rfl, (TW_used R.ao w1).2⟩) (u := 33) (by omega) (ms := usedL rows n2) (by rw [upF_self]; exact ⟨rfl, (TW_used R.ao w2).2⟩) (TW_used R.ao w1).1 (TW_used R.ao w2).1) lkX5_isLike mlX6_111 lmX5_isLike lpX5_isLike ⟨Nat.le_of_ble_eq_true rfl, Nat.le_of_ble_eq_true rfl⟩ ⟨Nat.le_of_ble_eq_true rfl, Nat.le_of_ble_eq_true rfl⟩ rfl ⟨_, (S5 32 (by omega)).2.1⟩ (Nat.le_of_ble_eq_true rfl) (dk rfl) ?_
  rintro _ rfl
  exact reti_ok X hr hlk (bI_n _) (dk rfl) (⟨rfl, _, C5, fun q h1 h2 => by rw [upF_ne _ _ h2, upF_ne _ _ h1], (((f2.frC C.1).trans (f3.frC S2)).trans (f4.frC S3)).trans (f5.frC S4)⟩) (Nat.le_of_ble_eq_true rfl) (Nat.le_of_ble_eq_true rfl)
set_option maxHeartbeats 16000000 in
theorem s6_makes (h : AH) (hl : la.stackTraces = false) (Y : LYO B Q) {st : ST} (C0 : StC B Q P ox kn h st) (x1 x2 x3 : Int32) : CTX la D cA B0 pa yX6_makes cX6_makes 7 (some .boolean) (rmD 7 3 18) [.ref ox, .int x1, .int x2, .int x3] h (AP B Q P ox kn (aMakes x1 x2 x3 st) h) (AX (aMakes x1 x2 x3 st) st h) := by
  refine CTX_of (by decide +kernel) (Nat.le_of_ble_eq_true rfl) ?_
  intro p e s m args below meth c X E hr hlk hnm ht
  have dk : ∀ {pc : Nat} {q : Instr × Nat}, lkd DX6_makes pc = some q → decode cX6_makes pc = .ok q := lkd_ok DX6_makes_ok
  obtain ⟨F, C, H, O⟩ := id C0
  iterate 2 refine fst1_ok X (dk rfl) rfl ?_
  refine callVX_ok (ci := 8) (T := TX6) (N := 14) (av := [.int x1]) (r := []) X E ht hlk (s6_answerOf h hl C x1) (fun E1 h1 z => AX.one (by unfold aMakes; rw [if_neg (by rw [okI_f z.2.1]; decide)]) ⟨z.1, z.2.2⟩) lkX6_answerOf mlX6_151 lmX6_answerOf lpX6_answerOf ⟨Nat.le_of_ble_eq_true rfl, Nat.le_of_ble_eq_true rfl⟩ ⟨Nat.le_of_ble_eq_true rfl, Nat.le_of_ble_eq_true rfl⟩ rfl C.2.1 (Nat.le_of_ble_eq_true rfl) (dk rfl) ?_
  rintro _ h1 ⟨⟨k, hk, rfl, rfl⟩, eh⟩
  obtain rfl := eh.symm
  iterate 3 refine fst1_ok X (dk rfl) rfl ?_
  refine callVX_ok (ci := 8) (T := TX6) (N := 14) (av := [.int x2]) (r := []) X E ht hlk (s6_termOf _ hl C x2) (fun E1 h1 z => AX.one (by unfold aMakes; rw [if_pos (okI_t hk (by decide))]; rw [if_neg (by rw [okI_f z.2.1]; decide)]) ⟨z.1, z.2.2⟩) lkX6_termOf mlX6_69 lmX6_termOf lpX6_termOf ⟨Nat.le_of_ble_eq_true rfl, Nat.le_of_ble_eq_true rfl⟩ ⟨Nat.le_of_ble_eq_true rfl, Nat.le_of_ble_eq_true rfl⟩ rfl C.2.1 (Nat.le_of_ble_eq_true rfl) (dk rfl) ?_
  rintro _ h1 ⟨⟨j, hj, rfl, rfl⟩, eh⟩
  obtain rfl := eh.symm
  iterate 3 refine fst1_ok X (dk rfl) rfl ?_
  refine callVX_ok (ci := 8) (T := TX6) (N := 14) (av := [.int x3]) (r := []) X E ht hlk (s6_termOf _ hl C x3) (fun E1 h1 z => AX.one (by unfold aMakes; rw [if_pos (okI_t hk (by decide)), if_pos (okI_t hj (by decide))]; rw [if_neg (by rw [okI_f z.2.1]; decide)]) ⟨z.1, z.2.2⟩) lkX6_termOf mlX6_69 lmX6_termOf lpX6_termOf ⟨Nat.le_of_ble_eq_true rfl, Nat.le_of_ble_eq_true rfl⟩ ⟨Nat.le_of_ble_eq_true rfl, Nat.le_of_ble_eq_true rfl⟩ rfl C.2.1 (Nat.le_of_ble_eq_true rfl) (dk rfl) ?_
  rintro _ h1 ⟨⟨i, hi, rfl, rfl⟩, eh⟩
  obtain rfl := eh.symm
  obtain ⟨nj, sj, ej, tj, wj, lj⟩ := H.slot O hj
  obtain ⟨ni, si, ei, ti, wi, li⟩ := H.slot O hi
  obtain ⟨rows, sk, rk⟩ := H.2 k hk
  have ok := C.2.2.1.2.2.1 k hk
  iterate 5 refine fst1_ok X (dk rfl) rfl ?_
  refine callV_ok (ci := 8) (T := TX6) (N := 14) (av := [.ref (P (7 + k)), .ref (B j), .ref (B i)]) (r := []) X E (s6_isMade _ Y C ok (by omega) rk (j := j) (by omega) tj wj lj (i := i) (by omega) ti wi li) lkX6_isMadeAlikeBy mlX6_222 lmX6_isMadeAlikeBy lpX6_isMadeAlikeBy ⟨Nat.le_of_ble_eq_true rfl, Nat.le_of_ble_eq_true rfl⟩ ⟨Nat.le_of_ble_eq_true rfl, Nat.le_of_ble_eq_true rfl⟩ rfl C.2.1 (Nat.le_of_ble_eq_true rfl) (dk rfl) ?_
  rintro _ h2 ⟨rfl, F2, C2, eF, f2⟩
  have H2 : FS F2 st := H.cg (fun n hn => eF n (by omega) (by omega))
  have e : aMakes (nI k) (nI j) (nI i) st = ((0, bI (decide (usedL rows nj = usedL rows ni))), st) := by
    unfold aMakes
    rw [if_pos (okI_t hk (by decide)), if_pos (okI_t hj (by decide)), if_pos (okI_t hi (by decide)), xI_n (by omega), xI_n (by omega), xI_n (by omega), getD_of sk, getD_of sj, getD_of si]
  rw [e]
  refine WRX.ret ?_
  exact reti_ok X hr hlk (bI_n _) (dk rfl) (⟨rfl, rfl, ⟨F2, C2, H2, O⟩, f2⟩) (Nat.le_of_ble_eq_true rfl) (Nat.le_of_ble_eq_true rfl)
set_option maxHeartbeats 16000000 in
theorem s0_renamesOnly (h : AH) (S : TS B Q h F) {o f : Nat} (O : AnO B h o f) {rows : List (List Nat)} (H1 : RWX F f rows) : CT la D cA B0 pa yX0_renamesOnly cX0_renamesOnly 6 (some .boolean) (rmD 3 0 0) [.ref o] h (RP (.int (bI (decide (bcF (nI (metN rows 8)) = nI 8)))) h) := by
  refine CT_of (by decide +kernel) (Nat.le_of_ble_eq_true rfl) ?_
  intro p e s m args below meth c X E hr hlk hnm
  have dk : ∀ {pc : Nat} {q : Instr × Nat}, lkd DX0_renamesOnly pc = some q → decode cX0_renamesOnly pc = .ok q := lkd_ok DX0_renamesOnly_ok
  obtain ⟨of, arr, o1, o2⟩ := id O
  have loop : ∀ (d k : Nat), d = 8 - k → k ≤ 8 → ∀ l : List (Nat × Value), lsel l [4, 3, 2, 1] = [(4, vI k), (3, vI 8), (2, .ref arr), (1, vI (metN rows k))] → WR p la e (rmD 3 0 0) s m args below meth c D cA B0 6 (RP (.int (bI (decide (bcF (nI (metN rows 8)) = nI 8)))) h) 13 l [] h 0 0 := by
    intro d
    induction d with
    | zero =>
      intro k hd hk l hl
      have hk2 : k = 8 := by omega
      subst hk2
      refine WS.sel [4, 3, 2, 1] hl ?_
      iterate 2 refine fst1_ok X (dk rfl) rfl ?_
      refine br_ok X (dk rfl) rfl (show ((16 : Nat) : Int) + 32 = ((48 : Nat) : Int) from rfl) (fun _ => ?_) (fun q => absurd (Int32.le_refl _) q)
      refine fst1_ok X (dk rfl) rfl ?_
      refine callS_ok (av := [vI (metN rows 8)]) (r := []) X E (c_bitCount h _) lkJ6_bitCount_0f7a4 mlX0_48 lsJ6_bitCount_0f7a4 ⟨Nat.le_of_ble_eq_true rfl, Nat.le_of_ble_eq_true rfl⟩ ⟨Nat.le_of_ble_eq_true rfl, Nat.le_of_ble_eq_true rfl⟩ (Nat.le_of_ble_eq_true rfl) (dk rfl) ?_
      rintro v h4 ⟨rfl, eh⟩
      obtain rfl := eh.symm
      refine fst1_ok X (dk rfl) rfl ?_
      by_cases c8 : bcF (nI (metN rows 8)) = nI 8
      · rw [decide_eq_true c8]
        refine br_ok X (dk rfl) rfl (show ((54 : Nat) : Int) + 7 = ((61 : Nat) : Int) from rfl) (fun q => absurd (by rw [c8, nI_8']) q) (fun _ => ?_)
        refine fst1_ok X (dk rfl) rfl ?_
        refine br_ok X (dk rfl) rfl (show ((58 : Nat) : Int) + 4 = ((62 : Nat) : Int) from rfl) (fun _ => ?_) (fun q => absurd trivial q)
        exact reti_ok X hr hlk (bI_n true) (dk rfl) (⟨rfl, rfl⟩) (Nat.le_of_ble_eq_true rfl) (Nat.le_of_ble_eq_true rfl)
      · rw [decide_eq_false c8]
        refine br_ok X (dk rfl) rfl (show ((54 : Nat) : Int) + 7 = ((61 : Nat) : Int) from rfl) (fun _ => ?_) (fun q => absurd (fun z => c8 (by rw [← nI_8']; exact z)) q)
        refine fst1_ok X (dk rfl) rfl ?_
        exact reti_ok X hr hlk (bI_n false) (dk rfl) (⟨rfl, rfl⟩) (Nat.le_of_ble_eq_true rfl) (Nat.le_of_ble_eq_true rfl)
    | succ d ih =>
      intro k hd hk l hl
      obtain ⟨n1, a1, a2, a3, a4⟩ := H1.2 k (by omega)
      have t1 : TN (F (f + k)) n1 := ⟨by rw [a2], a3.2⟩
      have f3 : Value.int (nI k + Int32.ofInt 1) = vI (k + 1) := congrArg Value.int (by rw [nI_1', nI_add])
      refine WS.sel [4, 3, 2, 1] hl ?_
      iterate 2 refine fst1_ok X (dk rfl) rfl ?_
      refine br_ok X (dk rfl) rfl (show ((16 : Nat) : Int) + 32 = ((48 : Nat) : Int) from rfl) (fun q => absurd q (nI_ge (a := k) (b := 8) (by omega) (by omega))) (fun _ => ?_)
      iterate 2 refine fst1_ok X (dk rfl) rfl ?_
      refine aldr_ok X (Or.inl rfl) (dk rfl) o2 (by omega) (rgB_get B f (k := k) (by omega)) ?_
      iterate 2 refine fst1_ok X (dk rfl) rfl ?_
      refine callVR_ok (ci := 7) (T := TX5) (N := 3) (av := []) (r := []) X E (s5_length h S (i := f + k) (by omega)) lkX5_length mlX0_34 lmX5_length lpX5_length ⟨Nat.le_of_ble_eq_true rfl, Nat.le_of_ble_eq_true rfl⟩ ⟨Nat.le_of_ble_eq_true rfl, Nat.le_of_ble_eq_true rfl⟩ rfl ⟨_, (S (f + k) (by omega)).2.1⟩ (Nat.le_of_ble_eq_true rfl) (dk rfl) ?_
      rintro _ rfl
      rw [t1.len]
      refine fst1_ok X (dk rfl) rfl ?_
      have em : metN rows (k + 1) = if n1.length = 1 then metN rows k ||| namesN n1 else metN rows k := by
        show (if (rows.getD k []).length = 1 then metN rows k ||| namesN (rows.getD k []) else metN rows k) = _
        rw [getD_of a1]
      by_cases e1 : n1.length = 1
      · rw [if_pos e1] at em
        refine br_ok X (dk rfl) rfl (show ((31 : Nat) : Int) + 11 = ((42 : Nat) : Int) from rfl) (fun q => absurd (by rw [e1]; decide) q) (fun _ => ?_)
        iterate 2 refine fst1_ok X (dk rfl) rfl ?_
        refine callVR_ok (ci := 7) (T := TX5) (N := 3) (av := []) (r := [vI (metN rows k)]) X E (s5_allNames h S (i := f + k) (by omega) t1) lkX5_allNames mlX0_78 lmX5_allNames lpX5_allNames ⟨Nat.le_of_ble_eq_true rfl, Nat.le_of_ble_eq_true rfl⟩ ⟨Nat.le_of_ble_eq_true rfl, Nat.le_of_ble_eq_true rfl⟩ rfl ⟨_, (S (f + k) (by omega)).2.1⟩ (Nat.le_of_ble_eq_true rfl) (dk rfl) ?_
        rintro _ rfl
        refine fst1_ok X (dk rfl) rfl ?_
        rw [nI_or, ← em]
        refine fst1_ok X (dk rfl) rfl ?_
        refine fst1_ok X (dk rfl) rfl ?_
        refine br_ok X (dk rfl) rfl (show ((45 : Nat) : Int) + (-32) = ((13 : Nat) : Int) from rfl) (fun _ => ?_) (fun q => absurd trivial q)
        refine WS.sel (l' := [(4, vI (k + 1)), (3, vI 8), (2, .ref arr), (1, vI (metN rows (k + 1)))]) [4, 3, 2, 1] (by rw [← f3]; rfl) ?_
        exact ih (k + 1) (by omega) (by omega) _ rfl
      · rw [if_neg e1] at em
        refine br_ok X (dk rfl) rfl (show ((31 : Nat) : Int) + 11 = ((42 : Nat) : Int) from rfl) (fun _ => ?_) (fun q => absurd (fun z => e1 (nI_at (b := 1) (by omega) (by decide) nI_1' z)) q)
        refine fst1_ok X (dk rfl) rfl ?_
        refine br_ok X (dk rfl) rfl (show ((45 : Nat) : Int) + (-32) = ((13 : Nat) : Int) from rfl) (fun _ => ?_) (fun q => absurd trivial q)
        refine WS.sel (l' := [(4, vI (k + 1)), (3, vI 8), (2, .ref arr), (1, vI (metN rows (k + 1)))]) [4, 3, 2, 1] (by rw [← f3, em]; rfl) ?_
        exact ih (k + 1) (by omega) (by omega) _ rfl
  iterate 3 refine fst1_ok X (dk rfl) rfl ?_
  refine getf_ok X flX0_11 (dk rfl) o1 rfl ?_
  iterate 2 refine fst1_ok X (dk rfl) rfl ?_
  refine alen_ok X (by decide) (dk rfl) o2 ?_
  rw [show ((rgB B f 8).map Value.ref).length = 8 by simp [rgB]]
  iterate 3 refine fst1_ok X (dk rfl) rfl ?_
  exact loop 8 0 rfl (Nat.zero_le _) _ rfl
theorem ulN_lt {r1 r2 : List (List Nat)} {z : Nat} (h : ulN r1 r2 = some z) : z < 2 ^ 20 := by
  have key : ∀ (p : Nat → Bool) (n k z : Nat), fsF p n k = some z → z < k + n := by
    intro p n
    induction n with
    | zero => intro k z h; cases h
    | succ n ih =>
      intro k z h
      unfold fsF at h
      split at h
      · cases h; omega
      · have := ih (k + 1) z h; omega
  have := key _ 8 0 z h
  omega
set_option maxHeartbeats 32000000 in
theorem s6_isSo (h : AH) (hl : la.stackTraces = false) (Y : LYO B Q) {st : ST} (C0 : StC B Q P ox kn h st) (x1 x2 : Int32) : CTX la D cA B0 pa yX6_isSo cX6_isSo 4 (some .boolean) (rmD 7 2 12) [.ref ox, .int x1, .int x2] h (AP B Q P ox kn (aIsSo x1 x2 st) h) (AX (aIsSo x1 x2 st) st h) := by
  refine CTX_of (by decide +kernel) (Nat.le_of_ble_eq_true rfl) ?_
  intro p e s m args below meth c X E hr hlk hnm ht
  have dk : ∀ {pc : Nat} {q : Instr × Nat}, lkd DX6_isSo pc = some q → decode cX6_isSo pc = .ok q := lkd_ok DX6_isSo_ok
  obtain ⟨F, C, H, O⟩ := id C0
  iterate 2 refine fst1_ok X (dk rfl) rfl ?_
  refine callVX_ok (ci := 8) (T := TX6) (N := 14) (av := [.int x1]) (r := []) X E ht hlk (s6_answerOf h hl C x1) (fun E1 h1 z => AX.one (by unfold aIsSo; rw [if_neg (by rw [okI_f z.2.1]; decide)]) ⟨z.1, z.2.2⟩) lkX6_answerOf mlX6_151 lmX6_answerOf lpX6_answerOf ⟨Nat.le_of_ble_eq_true rfl, Nat.le_of_ble_eq_true rfl⟩ ⟨Nat.le_of_ble_eq_true rfl, Nat.le_of_ble_eq_true rfl⟩ rfl C.2.1 (Nat.le_of_ble_eq_true rfl) (dk rfl) ?_
  rintro _ h1 ⟨⟨k, hk, rfl, rfl⟩, eh⟩
  obtain rfl := eh.symm
  obtain ⟨rows, sk, rk⟩ := H.2 k hk
  have ok := C.2.2.1.2.2.1 k hk
  have oa := C.2.2.1.2.2.2.1
  iterate 2 refine fst1_ok X (dk rfl) rfl ?_
  refine br_ok X (dk rfl) rfl (show ((7 : Nat) : Int) + 18 = ((25 : Nat) : Int) from rfl) (fun c0 => ?_) (fun c0 => ?_)
  · have h4 : x2 = 0 ∨ x2 = 1 := Or.inl c0
    have e : aIsSo (nI k) x2 st = ((0, bI (soB x2 rows)), st) := by
      unfold aIsSo
      rw [if_pos (okI_t hk (by decide)), if_pos h4, xI_n (by omega), getD_of sk]
    have es : soB x2 rows = decide (behL rows rows = rows) := if_pos c0
    rw [e, es]
    iterate 2 refine fst1_ok X (dk rfl) rfl ?_
    refine br_ok X (dk rfl) rfl (show ((27 : Nat) : Int) + 8 = ((35 : Nat) : Int) from rfl) (fun _ => ?_) (fun q => absurd (by rw [c0]; decide) q)
    refine fst1_ok X (dk rfl) rfl ?_
    refine getf_ok X flX6_38 (dk rfl) C.2.1 rfl ?_
    iterate 2 refine fst1_ok X (dk rfl) rfl ?_
    refine callVT_ok (ci := 2) (T := TX0) (N := 1) (av := [.ref (P (7 + k)), .ref (P (7 + k))]) (r := []) X E (s0_becomeBoth _ Y C.1 oa ok ok (by omega) (by omega) (fun n hn => by unfold rmI; rw [if_neg (by omega), if_neg (by omega), if_pos (by omega)]) rk) lkX0_becomeBoth mlX6_175 lmX0_becomeBoth lpX0_becomeBoth ⟨Nat.le_of_ble_eq_true rfl, Nat.le_of_ble_eq_true rfl⟩ ⟨Nat.le_of_ble_eq_true rfl, Nat.le_of_ble_eq_true rfl⟩ rfl oa.2.choose_spec.1 (Nat.le_of_ble_eq_true rfl) (dk rfl) (fun h2 S2 f2 => ?_)
    have C2 := C.tm Y S2 f2
    have hm : MDE (upK F 34 (fun n => auC 16 F (6 + 8 * k) ([], false) (rows.getD n [])) 8) 34 (behL rows rows) := by
      refine ⟨by unfold behL; rw [List.length_map]; exact rk.1, fun n hn => ?_⟩
      obtain ⟨ns, g1, g2, g3, g4⟩ := rk.2 n hn
      refine ⟨usedL rows ns, by unfold behL; rw [List.getElem?_map, g1]; rfl, ?_, TW_used rk.ao g3⟩
      rw [upK_in F 34 _ hn]
      show auC 16 F (6 + 8 * k) ([], false) (rows.getD n []) = _
      rw [getD_of g1]
      exact auC_rows rk ns _ g3.2 (Nat.zero_le _)
    have oa2 := oa.keep C.1 f2
    have ok2 := ok.keep C.1 f2
    have FK : FrC h h2 := f2.frC C.1
    have HK := upK_fs H (f := 34) (by omega) (fun n => auC 16 F (6 + 8 * k) ([], false) (rows.getD n []))
    refine fst1_ok X (dk rfl) rfl ?_
    refine getf_ok X flX6_38 (dk rfl) C2.2.1 rfl ?_
    refine callVR_ok (ci := 2) (T := TX0) (N := 1) (av := []) (r := []) X E (s0_isTooLong h2 S2 oa2) lkX0_isTooLong mlX6_230 lmX0_isTooLong lpX0_isTooLong ⟨Nat.le_of_ble_eq_true rfl, Nat.le_of_ble_eq_true rfl⟩ ⟨Nat.le_of_ble_eq_true rfl, Nat.le_of_ble_eq_true rfl⟩ rfl ⟨_, oa2.2.choose_spec.1⟩ (Nat.le_of_ble_eq_true rfl) (dk rfl) ?_
    rintro _ rfl
    rw [hm.tl]
    cases eb : (behL rows rows).any (fun z => decide (16 < z.length)) with
    | true =>
      have en : ¬ behL rows rows = rows := fun z => by
        obtain ⟨y, hy, h16⟩ := List.any_eq_true.mp eb
        rw [z] at hy
        have := (rk.ao.2 y hy).2
        have := of_decide_eq_true h16
        omega
      rw [decide_eq_false en]
      refine br_ok X (dk rfl) rfl (show ((51 : Nat) : Int) + 19 = ((70 : Nat) : Int) from rfl) (fun _ => ?_) (fun q => absurd bI_t q)
      refine fst1_ok X (dk rfl) rfl ?_
      refine WRX.ret ?_
      exact reti_ok X hr hlk (bI_n false) (dk rfl) (⟨rfl, rfl, ⟨_, C2, HK, O⟩, FK⟩) (Nat.le_of_ble_eq_true rfl) (Nat.le_of_ble_eq_true rfl)
    | false =>
      have RR := hm.short eb
      have rk2 : RWX (upK F 34 (fun n => auC 16 F (6 + 8 * k) ([], false) (rows.getD n [])) 8) (6 + 8 * k) rows := rk.cg (fun n hn => upK_out F _ _ (by omega))
      have un := ulN_none (r1 := behL rows rows) (r2 := rows) hm.1 rk.1
      refine br_ok X (dk rfl) rfl (show ((51 : Nat) : Int) + 19 = ((70 : Nat) : Int) from rfl) (fun q => absurd q bI_f) (fun _ => ?_)
      refine fst1_ok X (dk rfl) rfl ?_
      refine getf_ok X flX6_38 (dk rfl) C2.2.1 rfl ?_
      refine fst1_ok X (dk rfl) rfl ?_
      refine callVR_ok (ci := 2) (T := TX0) (N := 1) (av := [.ref (P (7 + k))]) (r := []) X E (s0_firstUnlike h2 S2 oa2 ok2 RR rk2) lkX0_firstUnlike mlX6_233 lmX0_firstUnlike lpX0_firstUnlike ⟨Nat.le_of_ble_eq_true rfl, Nat.le_of_ble_eq_true rfl⟩ ⟨Nat.le_of_ble_eq_true rfl, Nat.le_of_ble_eq_true rfl⟩ rfl ⟨_, oa2.2.choose_spec.1⟩ (Nat.le_of_ble_eq_true rfl) (dk rfl) ?_
      rintro _ rfl
      refine fst1_ok X (dk rfl) rfl ?_
      cases eu : ulN (behL rows rows) rows with
      | none =>
        rw [decide_eq_true (un.mp eu)]
        refine br_ok X (dk rfl) rfl (show ((63 : Nat) : Int) + 7 = ((70 : Nat) : Int) from rfl) (fun q => absurd rfl q) (fun _ => ?_)
        refine fst1_ok X (dk rfl) rfl ?_
        refine br_ok X (dk rfl) rfl (show ((67 : Nat) : Int) + 4 = ((71 : Nat) : Int) from rfl) (fun _ => ?_) (fun q => absurd trivial q)
        refine WRX.ret ?_
        exact reti_ok X hr hlk (bI_n true) (dk rfl) (⟨rfl, rfl, ⟨_, C2, HK, O⟩, FK⟩) (Nat.le_of_ble_eq_true rfl) (Nat.le_of_ble_eq_true rfl)
      | some z =>
        have z20 : z < 2 ^ 20 := ulN_lt eu
        rw [decide_eq_false (fun y => by have := un.mpr y; rw [eu] at this; cases this)]
        refine br_ok X (dk rfl) rfl (show ((63 : Nat) : Int) + 7 = ((70 : Nat) : Int) from rfl) (fun _ => ?_) (fun q => absurd (nI_m1 (by omega)) q)
        refine fst1_ok X (dk rfl) rfl ?_
        refine WRX.ret ?_
        exact reti_ok X hr hlk (bI_n false) (dk rfl) (⟨rfl, rfl, ⟨_, C2, HK, O⟩, FK⟩) (Nat.le_of_ble_eq_true rfl) (Nat.le_of_ble_eq_true rfl)
  · iterate 2 refine fst1_ok X (dk rfl) rfl ?_
    refine br_ok X (dk rfl) rfl (show ((12 : Nat) : Int) + 13 = ((25 : Nat) : Int) from rfl) (fun c1 => ?_) (fun c1 => ?_)
    · have h4 : x2 = 0 ∨ x2 = 1 := Or.inr c1
      have e : aIsSo (nI k) x2 st = ((0, bI (soB x2 rows)), st) := by
        unfold aIsSo
        rw [if_pos (okI_t hk (by decide)), if_pos h4, xI_n (by omega), getD_of sk]
      have es : soB x2 rows = decide (bcF (nI (metN rows 8)) = nI 8) := if_neg c0
      rw [e, es]
      iterate 2 refine fst1_ok X (dk rfl) rfl ?_
      refine br_ok X (dk rfl) rfl (show ((27 : Nat) : Int) + 8 = ((35 : Nat) : Int) from rfl) (fun q => absurd c1 q) (fun _ => ?_)
      refine fst1_ok X (dk rfl) rfl ?_
      refine callVR_ok (ci := 2) (T := TX0) (N := 1) (av := []) (r := []) X E (s0_renamesOnly _ C.1 ok rk) lkX0_renamesOnly mlX6_226 lmX0_renamesOnly lpX0_renamesOnly ⟨Nat.le_of_ble_eq_true rfl, Nat.le_of_ble_eq_true rfl⟩ ⟨Nat.le_of_ble_eq_true rfl, Nat.le_of_ble_eq_true rfl⟩ rfl ⟨_, ok.2.choose_spec.1⟩ (Nat.le_of_ble_eq_true rfl) (dk rfl) ?_
      rintro _ rfl
      refine WRX.ret ?_
      exact reti_ok X hr hlk (bI_n _) (dk rfl) (⟨rfl, rfl, ⟨F, C, H, O⟩, FrC.rf _⟩) (Nat.le_of_ble_eq_true rfl) (Nat.le_of_ble_eq_true rfl)
    · exact throwS_ok X E hl ht hlk xwX6_88 (List.mem_of_getElem? (i := 1) rfl) (dk rfl) (dk rfl) (dk rfl) (dk rfl) (dk rfl) ⟨Nat.le_of_ble_eq_true rfl, Nat.le_of_ble_eq_true rfl⟩ ⟨Nat.le_of_ble_eq_true rfl, Nat.le_of_ble_eq_true rfl⟩ (AX.two (by unfold aIsSo; rw [if_pos (okI_t hk (by decide)), if_neg (fun z => z.elim c0 c1)]) ⟨rfl, rfl⟩)
end Q13
