/-! the class's acts, strongly: parts, grafts, uses (printed by wip/p20/genS8.py) -/
def aHead (x1 x2 x3 x4 x5 : Int32) (st : ST) : RS := if okI 6 x1 then (if okI 6 x3 then (if okI 6 x4 then (if okI 6 x5 then (if okI 8 x2 then
  giveS (xI x1) ((xI x2 + 10) :: ((([st.1.getD (xI x3) [], st.1.getD (xI x4) [], st.1.getD (xI x5) []] : List (List Nat)).take (pF (xI x2 + 10))).flatten)) (nI ((xI x2 + 10) :: ((([st.1.getD (xI x3) [], st.1.getD (xI x4) [], st.1.getD (xI x5) []] : List (List Nat)).take (pF (xI x2 + 10))).flatten)).length) st
  else ((2, 0), st)) else ((1, 0), st)) else ((1, 0), st)) else ((1, 0), st)) else ((1, 0), st)
theorem addR_app {L : Nat} (t : TC) (xs ys : List Int32) : addR L (addR L t xs) ys = addR L t (xs ++ ys) := by
  unfold addR
  rw [List.foldl_append]
theorem addT_rows {L : Nat} (t : TC) (zs : List Nat) : addT L t (zs.map nI, false) = addR L t (zs.map nI) := by
  unfold addT
  exact Prod.ext rfl (Bool.or_false _)
theorem TW_used {rows : List (List Nat)} {ts : List Nat} (H : AO rows) (h : TW ts) : TW (usedL rows ts) := TW.used (rows := rows) (fun z hz => (H.2 z hz).1) (by rw [H.1]; omega) h
theorem okI_lt {N : Nat} {x : Int32} : okI N x = decide (¬ x < 0 ∧ x.toNatClampNeg < N) := by
  unfold okI
  rw [Bool.decide_and]
theorem okI_ex {N : Nat} {x : Int32} (h : okI N x = true) : ∃ j, j < N ∧ j < 2 ^ 31 ∧ x = nI j := by
  unfold okI at h
  rw [Bool.and_eq_true, decide_eq_true_eq, decide_eq_true_eq] at h
  obtain ⟨j, hj, rfl⟩ := nI_of h.1
  rw [nI_clamp hj] at h
  exact ⟨j, h.2, hj, rfl⟩
section S09
variable {la : Launch} {D : va_G} {cA : Nat → ClassId} {B0 pa : Nat} {B Q P : Nat → Nat} {ox : Nat} {kn : Int32}
set_option maxHeartbeats 16000000 in
theorem s6_part (h : AH) (hl : la.stackTraces = false) (Y : LYO B Q) {st : ST} (C0 : StC B Q P ox kn h st) (x1 x2 x3 : Int32) : CTX la D cA B0 pa yX6_part cX6_part 6 (some .int) (rmD 7 2 12) [.ref ox, .int x1, .int x2, .int x3] h (AP B Q P ox kn (aPart x1 x2 x3 st) h) (AX (aPart x1 x2 x3 st) st h) := by
  refine CTX_of (by decide +kernel) (Nat.le_of_ble_eq_true rfl) ?_
  intro p e s m args below meth c X E hr hlk hnm ht
  have dk : ∀ {pc : Nat} {q : Instr × Nat}, lkd DX6_part pc = some q → decode cX6_part pc = .ok q := lkd_ok DX6_part_ok
  obtain ⟨F, C, H, O⟩ := id C0
  iterate 2 refine fst1_ok X (dk rfl) rfl ?_
  refine callVX_ok (ci := 8) (T := TX6) (N := 14) (av := [.int x1]) (r := []) X E ht hlk (s6_termOf h hl C x1) (fun E1 h1 z => AX.one (by unfold aPart; rw [if_neg (by rw [okI_f z.2.1]; decide)]) ⟨z.1, z.2.2⟩) lkX6_termOf mlX6_69 lmX6_termOf lpX6_termOf ⟨Nat.le_of_ble_eq_true rfl, Nat.le_of_ble_eq_true rfl⟩ ⟨Nat.le_of_ble_eq_true rfl, Nat.le_of_ble_eq_true rfl⟩ rfl C.2.1 (Nat.le_of_ble_eq_true rfl) (dk rfl) ?_
  rintro _ h1 ⟨⟨j, hj, rfl, rfl⟩, eh⟩
  obtain rfl := eh.symm
  iterate 3 refine fst1_ok X (dk rfl) rfl ?_
  refine callVX_ok (ci := 8) (T := TX6) (N := 14) (av := [.int x3]) (r := []) X E ht hlk (s6_termOf _ hl C x3) (fun E1 h1 z => AX.one (by unfold aPart; rw [if_pos (okI_t hj (by decide))]; rw [if_neg (by rw [okI_f z.2.1]; decide)]) ⟨z.1, z.2.2⟩) lkX6_termOf mlX6_69 lmX6_termOf lpX6_termOf ⟨Nat.le_of_ble_eq_true rfl, Nat.le_of_ble_eq_true rfl⟩ ⟨Nat.le_of_ble_eq_true rfl, Nat.le_of_ble_eq_true rfl⟩ rfl C.2.1 (Nat.le_of_ble_eq_true rfl) (dk rfl) ?_
  rintro _ h1 ⟨⟨i, hi, rfl, rfl⟩, eh⟩
  obtain rfl := eh.symm
  obtain ⟨nj, sj, ej, tj, wj, lj⟩ := H.slot O hj
  obtain ⟨ni, si, ei, ti, wi, li⟩ := H.slot O hi
  iterate 3 refine fst1_ok X (dk rfl) rfl ?_
  refine callVR_ok (ci := 7) (T := TX5) (N := 3) (av := [.int x2]) (r := []) X E (s5_hasPlace _ C.1 (i := j) (by omega) x2) lkX5_hasPlace mlX6_115 lmX5_hasPlace lpX5_hasPlace ⟨Nat.le_of_ble_eq_true rfl, Nat.le_of_ble_eq_true rfl⟩ ⟨Nat.le_of_ble_eq_true rfl, Nat.le_of_ble_eq_true rfl⟩ rfl ⟨_, (C.1 j (by omega)).2.1⟩ (Nat.le_of_ble_eq_true rfl) (dk rfl) ?_
  rintro _ rfl
  rw [tj.len, ← okI_lt]
  cases hp : okI nj.length x2 with
  | false =>
    refine br_ok X (dk rfl) rfl (show ((20 : Nat) : Int) + 8 = ((28 : Nat) : Int) from rfl) (fun q => absurd q bI_f) (fun _ => ?_)
    refine fst1_ok X (dk rfl) rfl ?_
    refine callV_ok (ci := 8) (T := TX6) (N := 14) (av := []) (r := []) X E (s6_refuse _ C) lkX6_refuse mlX6_119 lmX6_refuse lpX6_refuse ⟨Nat.le_of_ble_eq_true rfl, Nat.le_of_ble_eq_true rfl⟩ ⟨Nat.le_of_ble_eq_true rfl, Nat.le_of_ble_eq_true rfl⟩ rfl C.2.1 (Nat.le_of_ble_eq_true rfl) (dk rfl) ?_
    rintro _ h2 ⟨rfl, C2, f2⟩
    have e : aPart (nI j) x2 (nI i) st = noS st := by
      unfold aPart
      rw [if_pos (okI_t hj (by decide)), if_pos (okI_t hi (by decide)), xI_n (by omega), getD_of sj, if_neg (by rw [hp]; decide)]
    rw [e]
    refine WRX.ret ?_
    exact reti_ok X hr hlk rfl (dk rfl) (⟨rfl, rfl, ⟨_, C2, H.cnt _ _, O.cnt _ _⟩, f2⟩) (Nat.le_of_ble_eq_true rfl) (Nat.le_of_ble_eq_true rfl)
  | true =>
    refine br_ok X (dk rfl) rfl (show ((20 : Nat) : Int) + 8 = ((28 : Nat) : Int) from rfl) (fun _ => ?_) (fun q => absurd bI_t q)
    obtain ⟨p, hp1, hp2, rfl⟩ := okI_ex hp
    obtain ⟨k1, k2, k3, k4⟩ := subTW wj hp1
    refine fst1_ok X (dk rfl) rfl ?_
    refine getf_ok X flX6_24 (dk rfl) C.2.1 rfl ?_
    refine callVT_ok (ci := 7) (T := TX5) (N := 3) (av := []) (r := []) X E (s5_empty _ Y C.1 (i := 30) (by omega)) lkX5_empty mlX6_94 lmX5_empty lpX5_empty ⟨Nat.le_of_ble_eq_true rfl, Nat.le_of_ble_eq_true rfl⟩ ⟨Nat.le_of_ble_eq_true rfl, Nat.le_of_ble_eq_true rfl⟩ rfl (C.1 30 (by omega)).2.1 (Nat.le_of_ble_eq_true rfl) (dk rfl) (fun h2 S2 f2 => ?_)
    have C2 := C.tm Y S2 f2
    have t2j : TN (upF F 30 ([], false) j) nj := by rw [upF_ne _ _ (by omega)]; exact tj
    refine fst1_ok X (dk rfl) rfl ?_
    refine getf_ok X flX6_24 (dk rfl) C2.2.1 rfl ?_
    iterate 4 refine fst1_ok X (dk rfl) rfl ?_
    refine callVR_ok (ci := 7) (T := TX5) (N := 3) (av := [vI p]) (r := [vI p, .ref (B j), .ref (B 30)]) X E (s5_endOf h2 S2 (i := j) (by omega) t2j k1) lkX5_endOf mlX6_122 lmX5_endOf lpX5_endOf ⟨Nat.le_of_ble_eq_true rfl, Nat.le_of_ble_eq_true rfl⟩ ⟨Nat.le_of_ble_eq_true rfl, Nat.le_of_ble_eq_true rfl⟩ rfl ⟨_, (S2 j (by omega)).2.1⟩ (Nat.le_of_ble_eq_true rfl) (dk rfl) ?_
    rintro _ rfl
    refine callVT_ok (ci := 7) (T := TX5) (N := 3) (av := [.ref (B j), vI p, vI (p + tl nj p)]) (r := []) X E (s5_addRow h2 Y S2 (i := 30) (by omega) (j := j) (by omega) (by omega) (a := p) (b := p + tl nj p) (by omega) (by rw [t2j.len]; omega)) lkX5_addRow mlX6_125 lmX5_addRow lpX5_addRow ⟨Nat.le_of_ble_eq_true rfl, Nat.le_of_ble_eq_true rfl⟩ ⟨Nat.le_of_ble_eq_true rfl, Nat.le_of_ble_eq_true rfl⟩ rfl (S2 30 (by omega)).2.1 (Nat.le_of_ble_eq_true rfl) (dk rfl) (fun h3 S3 f3 => ?_)
    have C3 := C2.tm Y S3 f3
    have e30 : upF (upF F 30 ([], false)) 30 (addR (rmI 30) (upF F 30 ([], false) 30) (((upF F 30 ([], false) j).1.drop p).take (p + tl nj p - p))) 30 = addR 16 ([], false) ((sub' nj p).map nI) := by
      rw [upF_self, upF_self, t2j.1, Nat.add_sub_cancel_left, ← List.map_drop, ← List.map_take]
      rfl
    iterate 2 refine fst1_ok X (dk rfl) rfl ?_
    refine callV_ok (ci := 8) (T := TX6) (N := 14) (av := [.ref (B i)]) (r := []) X E (s6_putSpareInto h3 Y C3 (j := i) hi (zs := _) e30) lkX6_putSpareInto mlX6_104 lmX6_putSpareInto lpX6_putSpareInto ⟨Nat.le_of_ble_eq_true rfl, Nat.le_of_ble_eq_true rfl⟩ ⟨Nat.le_of_ble_eq_true rfl, Nat.le_of_ble_eq_true rfl⟩ rfl C3.2.1 (Nat.le_of_ble_eq_true rfl) (dk rfl) ?_
    intro v h4 G
    have Gf := gvP.ap G ((f2.frC C.1).trans (f3.frC S2)) (upF_fs (upF_fs H (i := 30) (by omega) _) (i := 30) (by omega) _) O hi k4
    have e : aPart (nI j) (nI p) (nI i) st = giveS i (sub' nj p) (nI (sub' nj p).length) st := by
      unfold aPart
      rw [if_pos (okI_t hj (by decide)), if_pos (okI_t hi (by decide)), xI_n (by omega), xI_n (by omega), xI_n (by omega), getD_of sj, if_pos hp]
    rw [← e] at Gf
    obtain ⟨g1, rfl, g3⟩ := Gf
    refine WRX.ret ?_
    exact reti_ok X hr hlk rfl (dk rfl) (⟨g1, rfl, g3⟩) (Nat.le_of_ble_eq_true rfl) (Nat.le_of_ble_eq_true rfl)
set_option maxHeartbeats 16000000 in
theorem s6_graft (h : AH) (hl : la.stackTraces = false) (Y : LYO B Q) {st : ST} (C0 : StC B Q P ox kn h st) (x1 x2 x3 : Int32) : CTX la D cA B0 pa yX6_graft cX6_graft 6 (some .int) (rmD 7 2 12) [.ref ox, .int x1, .int x2, .int x3] h (AP B Q P ox kn (aGraft x1 x2 x3 st) h) (AX (aGraft x1 x2 x3 st) st h) := by
  refine CTX_of (by decide +kernel) (Nat.le_of_ble_eq_true rfl) ?_
  intro p e s m args below meth c X E hr hlk hnm ht
  have dk : ∀ {pc : Nat} {q : Instr × Nat}, lkd DX6_graft pc = some q → decode cX6_graft pc = .ok q := lkd_ok DX6_graft_ok
  obtain ⟨F, C, H, O⟩ := id C0
  iterate 2 refine fst1_ok X (dk rfl) rfl ?_
  refine callVX_ok (ci := 8) (T := TX6) (N := 14) (av := [.int x1]) (r := []) X E ht hlk (s6_termOf h hl C x1) (fun E1 h1 z => AX.one (by unfold aGraft; rw [if_neg (by rw [okI_f z.2.1]; decide)]) ⟨z.1, z.2.2⟩) lkX6_termOf mlX6_69 lmX6_termOf lpX6_termOf ⟨Nat.le_of_ble_eq_true rfl, Nat.le_of_ble_eq_true rfl⟩ ⟨Nat.le_of_ble_eq_true rfl, Nat.le_of_ble_eq_true rfl⟩ rfl C.2.1 (Nat.le_of_ble_eq_true rfl) (dk rfl) ?_
  rintro _ h1 ⟨⟨j, hj, rfl, rfl⟩, eh⟩
  obtain rfl := eh.symm
  iterate 3 refine fst1_ok X (dk rfl) rfl ?_
  refine callVX_ok (ci := 8) (T := TX6) (N := 14) (av := [.int x3]) (r := []) X E ht hlk (s6_termOf _ hl C x3) (fun E1 h1 z => AX.one (by unfold aGraft; rw [if_pos (okI_t hj (by decide))]; rw [if_neg (by rw [okI_f z.2.1]; decide)]) ⟨z.1, z.2.2⟩) lkX6_termOf mlX6_69 lmX6_termOf lpX6_termOf ⟨Nat.le_of_ble_eq_true rfl, Nat.le_of_ble_eq_true rfl⟩ ⟨Nat.le_of_ble_eq_true rfl, Nat.le_of_ble_eq_true rfl⟩ rfl C.2.1 (Nat.le_of_ble_eq_true rfl) (dk rfl) ?_
  rintro _ h1 ⟨⟨i, hi, rfl, rfl⟩, eh⟩
  obtain rfl := eh.symm
  obtain ⟨nj, sj, ej, tj, wj, lj⟩ := H.slot O hj
  obtain ⟨ni, si, ei, ti, wi, li⟩ := H.slot O hi
  iterate 3 refine fst1_ok X (dk rfl) rfl ?_
  refine callVR_ok (ci := 7) (T := TX5) (N := 3) (av := [.int x2]) (r := []) X E (s5_hasPlace _ C.1 (i := j) (by omega) x2) lkX5_hasPlace mlX6_115 lmX5_hasPlace lpX5_hasPlace ⟨Nat.le_of_ble_eq_true rfl, Nat.le_of_ble_eq_true rfl⟩ ⟨Nat.le_of_ble_eq_true rfl, Nat.le_of_ble_eq_true rfl⟩ rfl ⟨_, (C.1 j (by omega)).2.1⟩ (Nat.le_of_ble_eq_true rfl) (dk rfl) ?_
  rintro _ rfl
  rw [tj.len, ← okI_lt]
  cases hp : okI nj.length x2 with
  | false =>
    refine br_ok X (dk rfl) rfl (show ((20 : Nat) : Int) + 8 = ((28 : Nat) : Int) from rfl) (fun q => absurd q bI_f) (fun _ => ?_)
    refine fst1_ok X (dk rfl) rfl ?_
    refine callV_ok (ci := 8) (T := TX6) (N := 14) (av := []) (r := []) X E (s6_refuse _ C) lkX6_refuse mlX6_119 lmX6_refuse lpX6_refuse ⟨Nat.le_of_ble_eq_true rfl, Nat.le_of_ble_eq_true rfl⟩ ⟨Nat.le_of_ble_eq_true rfl, Nat.le_of_ble_eq_true rfl⟩ rfl C.2.1 (Nat.le_of_ble_eq_true rfl) (dk rfl) ?_
    rintro _ h2 ⟨rfl, C2, f2⟩
    have e : aGraft (nI j) x2 (nI i) st = noS st := by
      unfold aGraft
      rw [if_pos (okI_t hj (by decide)), if_pos (okI_t hi (by decide)), xI_n (by omega), getD_of sj, if_neg (by rw [hp]; decide)]
    rw [e]
    refine WRX.ret ?_
    exact reti_ok X hr hlk rfl (dk rfl) (⟨rfl, rfl, ⟨_, C2, H.cnt _ _, O.cnt _ _⟩, f2⟩) (Nat.le_of_ble_eq_true rfl) (Nat.le_of_ble_eq_true rfl)
  | true =>
    refine br_ok X (dk rfl) rfl (show ((20 : Nat) : Int) + 8 = ((28 : Nat) : Int) from rfl) (fun _ => ?_) (fun q => absurd bI_t q)
    obtain ⟨p, hp1, hp2, rfl⟩ := okI_ex hp
    obtain ⟨k1, k2, k3, k4⟩ := subTW wj hp1
    refine fst1_ok X (dk rfl) rfl ?_
    refine getf_ok X flX6_24 (dk rfl) C.2.1 rfl ?_
    refine callVT_ok (ci := 7) (T := TX5) (N := 3) (av := []) (r := []) X E (s5_empty _ Y C.1 (i := 30) (by omega)) lkX5_empty mlX6_94 lmX5_empty lpX5_empty ⟨Nat.le_of_ble_eq_true rfl, Nat.le_of_ble_eq_true rfl⟩ ⟨Nat.le_of_ble_eq_true rfl, Nat.le_of_ble_eq_true rfl⟩ rfl (C.1 30 (by omega)).2.1 (Nat.le_of_ble_eq_true rfl) (dk rfl) (fun h2 S2 f2 => ?_)
    have C2 := C.tm Y S2 f2
    have t2j : TN (upF F 30 ([], false) j) nj := by rw [upF_ne _ _ (by omega)]; exact tj
    refine fst1_ok X (dk rfl) rfl ?_
    refine getf_ok X flX6_24 (dk rfl) C2.2.1 rfl ?_
    iterate 3 refine fst1_ok X (dk rfl) rfl ?_
    refine callVT_ok (ci := 7) (T := TX5) (N := 3) (av := [.ref (B j), vI 0, vI p]) (r := []) X E (s5_addRow h2 Y S2 (i := 30) (by omega) (j := j) (by omega) (by omega) (a := 0) (b := p) (by omega) (by rw [t2j.len]; omega)) lkX5_addRow mlX6_125 lmX5_addRow lpX5_addRow ⟨Nat.le_of_ble_eq_true rfl, Nat.le_of_ble_eq_true rfl⟩ ⟨Nat.le_of_ble_eq_true rfl, Nat.le_of_ble_eq_true rfl⟩ rfl (S2 30 (by omega)).2.1 (Nat.le_of_ble_eq_true rfl) (dk rfl) (fun h3 S3 f3 => ?_)
    have e3 : upF (upF F 30 ([], false)) 30 (addR (rmI 30) (upF F 30 ([], false) 30) (((upF F 30 ([], false) j).1.drop 0).take (p - 0))) = upF F 30 (addR 16 ([], false) ((nj.take p).map nI)) := by
      rw [upF_up, upF_self, t2j.1, List.drop_zero, Nat.sub_zero, ← List.map_take]
      rfl
    rw [e3] at S3
    have C3 := C2.tm Y S3 f3
    refine fst1_ok X (dk rfl) rfl ?_
    refine getf_ok X flX6_24 (dk rfl) C3.2.1 rfl ?_
    refine fst1_ok X (dk rfl) rfl ?_
    have t3i : upF F 30 (addR 16 ([], false) ((nj.take p).map nI)) i = (ni.map nI, false) := by rw [upF_ne _ _ (by omega)]; exact ei
    refine callVT_ok (ci := 7) (T := TX5) (N := 3) (av := [.ref (B i)]) (r := []) X E (s5_addTerm h3 Y S3 (i := 30) (by omega) (j := i) (by omega) (by omega)) lkX5_addTerm mlX6_100 lmX5_addTerm lpX5_addTerm ⟨Nat.le_of_ble_eq_true rfl, Nat.le_of_ble_eq_true rfl⟩ ⟨Nat.le_of_ble_eq_true rfl, Nat.le_of_ble_eq_true rfl⟩ rfl (S3 30 (by omega)).2.1 (Nat.le_of_ble_eq_true rfl) (dk rfl) (fun h4 S4 f4 => ?_)
    rw [t3i, upF_self, upF_up, addT_rows, show rmI 30 = 16 from rfl, addR_app, ← List.map_append] at S4
    have C4 := C3.tm Y S4 f4
    have t4j : TN (upF F 30 (addR 16 ([], false) ((nj.take p ++ ni).map nI)) j) nj := by rw [upF_ne _ _ (by omega)]; exact tj
    refine fst1_ok X (dk rfl) rfl ?_
    refine getf_ok X flX6_24 (dk rfl) C4.2.1 rfl ?_
    iterate 3 refine fst1_ok X (dk rfl) rfl ?_
    refine callVR_ok (ci := 7) (T := TX5) (N := 3) (av := [vI p]) (r := [.ref (B j), .ref (B 30)]) X E (s5_endOf h4 S4 (i := j) (by omega) t4j k1) lkX5_endOf mlX6_122 lmX5_endOf lpX5_endOf ⟨Nat.le_of_ble_eq_true rfl, Nat.le_of_ble_eq_true rfl⟩ ⟨Nat.le_of_ble_eq_true rfl, Nat.le_of_ble_eq_true rfl⟩ rfl ⟨_, (S4 j (by omega)).2.1⟩ (Nat.le_of_ble_eq_true rfl) (dk rfl) ?_
    rintro _ rfl
    refine fst1_ok X (dk rfl) rfl ?_
    refine callVR_ok (ci := 7) (T := TX5) (N := 3) (av := []) (r := [vI (p + tl nj p), .ref (B j), .ref (B 30)]) X E (s5_length h4 S4 (i := j) (by omega)) lkX5_length mlX6_76 lmX5_length lpX5_length ⟨Nat.le_of_ble_eq_true rfl, Nat.le_of_ble_eq_true rfl⟩ ⟨Nat.le_of_ble_eq_true rfl, Nat.le_of_ble_eq_true rfl⟩ rfl ⟨_, (S4 j (by omega)).2.1⟩ (Nat.le_of_ble_eq_true rfl) (dk rfl) ?_
    rintro _ rfl
    rw [t4j.len]
    refine callVT_ok (ci := 7) (T := TX5) (N := 3) (av := [.ref (B j), vI (p + tl nj p), vI nj.length]) (r := []) X E (s5_addRow h4 Y S4 (i := 30) (by omega) (j := j) (by omega) (by omega) (a := p + tl nj p) (b := nj.length) (by omega) (by rw [t4j.len]; omega)) lkX5_addRow mlX6_125 lmX5_addRow lpX5_addRow ⟨Nat.le_of_ble_eq_true rfl, Nat.le_of_ble_eq_true rfl⟩ ⟨Nat.le_of_ble_eq_true rfl, Nat.le_of_ble_eq_true rfl⟩ rfl (S4 30 (by omega)).2.1 (Nat.le_of_ble_eq_true rfl) (dk rfl) (fun h5 S5 f5 => ?_)
    have e5 : upF (upF F 30 (addR 16 ([], false) ((nj.take p ++ ni).map nI))) 30 (addR (rmI 30) (upF F 30 (addR 16 ([], false) ((nj.take p ++ ni).map nI)) 30) (((upF F 30 (addR 16 ([], false) ((nj.take p ++ ni).map nI)) j).1.drop (p + tl nj p)).take (nj.length - (p + tl nj p)))) = upF F 30 (addR 16 ([], false) ((grL nj ni p).map nI)) := by
      rw [upF_up, upF_self, t4j.1, show rmI 30 = 16 from rfl, ← List.map_drop, ← List.map_take, addR_app, ← List.map_append, List.take_of_length_le (l := List.drop (p + tl nj p) nj) (Nat.le_of_eq (List.length_drop))]
      rfl
    rw [e5] at S5
    have C5 := C4.tm Y S5 f5
    iterate 2 refine fst1_ok X (dk rfl) rfl ?_
    refine callV_ok (ci := 8) (T := TX6) (N := 14) (av := [.ref (B j)]) (r := []) X E (s6_putSpareInto h5 Y C5 (j := j) hj (zs := _) (upF_self _ _ _)) lkX6_putSpareInto mlX6_104 lmX6_putSpareInto lpX6_putSpareInto ⟨Nat.le_of_ble_eq_true rfl, Nat.le_of_ble_eq_true rfl⟩ ⟨Nat.le_of_ble_eq_true rfl, Nat.le_of_ble_eq_true rfl⟩ rfl C5.2.1 (Nat.le_of_ble_eq_true rfl) (dk rfl) ?_
    intro v h6 G
    have Gf := gvP.ap G ((((f2.frC C.1).trans (f3.frC S2)).trans (f4.frC S3)).trans (f5.frC S4)) (upF_fs H (i := 30) (by omega) _) O hj (TW.graft wj wi hp1 k1)
    have e : aGraft (nI j) (nI p) (nI i) st = giveS j (grL nj ni p) (nI (grL nj ni p).length) st := by
      unfold aGraft
      rw [if_pos (okI_t hj (by decide)), if_pos (okI_t hi (by decide)), xI_n (by omega), xI_n (by omega), xI_n (by omega), getD_of sj, getD_of si, if_pos hp]
    rw [← e] at Gf
    obtain ⟨g1, rfl, g3⟩ := Gf
    refine WRX.ret ?_
    exact reti_ok X hr hlk rfl (dk rfl) (⟨g1, rfl, g3⟩) (Nat.le_of_ble_eq_true rfl) (Nat.le_of_ble_eq_true rfl)
set_option maxHeartbeats 16000000 in
theorem s6_use (h : AH) (hl : la.stackTraces = false) (Y : LYO B Q) {st : ST} (C0 : StC B Q P ox kn h st) (x1 x2 x3 : Int32) : CTX la D cA B0 pa yX6_use cX6_use 7 (some .int) (rmD 7 3 18) [.ref ox, .int x1, .int x2, .int x3] h (AP B Q P ox kn (aUse x1 x2 x3 st) h) (AX (aUse x1 x2 x3 st) st h) := by
  refine CTX_of (by decide +kernel) (Nat.le_of_ble_eq_true rfl) ?_
  intro p e s m args below meth c X E hr hlk hnm ht
  have dk : ∀ {pc : Nat} {q : Instr × Nat}, lkd DX6_use pc = some q → decode cX6_use pc = .ok q := lkd_ok DX6_use_ok
  obtain ⟨F, C, H, O⟩ := id C0
  iterate 2 refine fst1_ok X (dk rfl) rfl ?_
  refine callVX_ok (ci := 8) (T := TX6) (N := 14) (av := [.int x1]) (r := []) X E ht hlk (s6_answerOf h hl C x1) (fun E1 h1 z => AX.one (by unfold aUse; rw [if_neg (by rw [okI_f z.2.1]; decide)]) ⟨z.1, z.2.2⟩) lkX6_answerOf mlX6_151 lmX6_answerOf lpX6_answerOf ⟨Nat.le_of_ble_eq_true rfl, Nat.le_of_ble_eq_true rfl⟩ ⟨Nat.le_of_ble_eq_true rfl, Nat.le_of_ble_eq_true rfl⟩ rfl C.2.1 (Nat.le_of_ble_eq_true rfl) (dk rfl) ?_
  rintro _ h1 ⟨⟨k, hk, rfl, rfl⟩, eh⟩
  obtain rfl := eh.symm
  iterate 3 refine fst1_ok X (dk rfl) rfl ?_
  refine callVX_ok (ci := 8) (T := TX6) (N := 14) (av := [.int x2]) (r := []) X E ht hlk (s6_termOf _ hl C x2) (fun E1 h1 z => AX.one (by unfold aUse; rw [if_pos (okI_t hk (by decide))]; rw [if_neg (by rw [okI_f z.2.1]; decide)]) ⟨z.1, z.2.2⟩) lkX6_termOf mlX6_69 lmX6_termOf lpX6_termOf ⟨Nat.le_of_ble_eq_true rfl, Nat.le_of_ble_eq_true rfl⟩ ⟨Nat.le_of_ble_eq_true rfl, Nat.le_of_ble_eq_true rfl⟩ rfl C.2.1 (Nat.le_of_ble_eq_true rfl) (dk rfl) ?_
  rintro _ h1 ⟨⟨j, hj, rfl, rfl⟩, eh⟩
  obtain rfl := eh.symm
  iterate 3 refine fst1_ok X (dk rfl) rfl ?_
  refine callVX_ok (ci := 8) (T := TX6) (N := 14) (av := [.int x3]) (r := []) X E ht hlk (s6_termOf _ hl C x3) (fun E1 h1 z => AX.one (by unfold aUse; rw [if_pos (okI_t hk (by decide)), if_pos (okI_t hj (by decide))]; rw [if_neg (by rw [okI_f z.2.1]; decide)]) ⟨z.1, z.2.2⟩) lkX6_termOf mlX6_69 lmX6_termOf lpX6_termOf ⟨Nat.le_of_ble_eq_true rfl, Nat.le_of_ble_eq_true rfl⟩ ⟨Nat.le_of_ble_eq_true rfl, Nat.le_of_ble_eq_true rfl⟩ rfl C.2.1 (Nat.le_of_ble_eq_true rfl) (dk rfl) ?_
  rintro _ h1 ⟨⟨i, hi, rfl, rfl⟩, eh⟩
  obtain rfl := eh.symm
  obtain ⟨nj, sj, ej, tj, wj, lj⟩ := H.slot O hj
  obtain ⟨rows, sk, rk⟩ := H.2 k hk
  have ok := C.2.2.1.2.2.1 k hk
  iterate 2 refine fst1_ok X (dk rfl) rfl ?_
  refine getf_ok X flX6_24 (dk rfl) C.2.1 rfl ?_
  refine callVT_ok (ci := 7) (T := TX5) (N := 3) (av := []) (r := []) X E (s5_empty _ Y C.1 (i := 30) (by omega)) lkX5_empty mlX6_94 lmX5_empty lpX5_empty ⟨Nat.le_of_ble_eq_true rfl, Nat.le_of_ble_eq_true rfl⟩ ⟨Nat.le_of_ble_eq_true rfl, Nat.le_of_ble_eq_true rfl⟩ rfl (C.1 30 (by omega)).2.1 (Nat.le_of_ble_eq_true rfl) (dk rfl) (fun h2 S2 f2 => ?_)
  have C2 := C.tm Y S2 f2
  have t2j : TN (upF F 30 ([], false) j) nj := by rw [upF_ne _ _ (by omega)]; exact tj
  have ok2 := ok.keep C.1 f2
  iterate 4 refine fst1_ok X (dk rfl) rfl ?_
  refine callVR_ok (ci := 7) (T := TX5) (N := 3) (av := []) (r := [vI 0, .ref (B j), .ref (P (7 + k))]) X E (s5_length h2 S2 (i := j) (by omega)) lkX5_length mlX6_76 lmX5_length lpX5_length ⟨Nat.le_of_ble_eq_true rfl, Nat.le_of_ble_eq_true rfl⟩ ⟨Nat.le_of_ble_eq_true rfl, Nat.le_of_ble_eq_true rfl⟩ rfl ⟨_, (S2 j (by omega)).2.1⟩ (Nat.le_of_ble_eq_true rfl) (dk rfl) ?_
  rintro _ rfl
  rw [t2j.len]
  refine fst1_ok X (dk rfl) rfl ?_
  refine getf_ok X flX6_24 (dk rfl) C2.2.1 rfl ?_
  refine callVT_ok (ci := 2) (T := TX0) (N := 1) (av := [.ref (B j), vI 0, vI nj.length, .ref (B 30)]) (r := []) X E (s0_addUsed h2 Y S2 ok2 (i1 := j) (by omega) t2j (i2 := 30) (by omega) (by omega) (by omega) (Nat.zero_le _) (Nat.le_refl _)) lkX0_addUsed mlX6_155 lmX0_addUsed lpX0_addUsed ⟨Nat.le_of_ble_eq_true rfl, Nat.le_of_ble_eq_true rfl⟩ ⟨Nat.le_of_ble_eq_true rfl, Nat.le_of_ble_eq_true rfl⟩ rfl ok2.2.choose_spec.1 (Nat.le_of_ble_eq_true rfl) (dk rfl) (fun h3 S3 f3 => ?_)
  have rk2 : RWX (upF F 30 ([], false)) (6 + 8 * k) rows := ((upF_fs H (i := 30) (by omega) ([], false)).2 k hk).elim (fun r2 q => by have := sk.symm.trans q.1; cases this; exact q.2)
  rw [List.drop_zero, Nat.sub_zero, List.take_length, auC_rows rk2 nj _ wj.2 (by rw [upF_self]; exact Nat.zero_le _), upF_self, upF_up] at S3
  have C3 := C2.tm Y S3 f3
  iterate 2 refine fst1_ok X (dk rfl) rfl ?_
  refine callV_ok (ci := 8) (T := TX6) (N := 14) (av := [.ref (B i)]) (r := []) X E (s6_putSpareInto h3 Y C3 (j := i) hi (zs := _) (upF_self _ _ _)) lkX6_putSpareInto mlX6_104 lmX6_putSpareInto lpX6_putSpareInto ⟨Nat.le_of_ble_eq_true rfl, Nat.le_of_ble_eq_true rfl⟩ ⟨Nat.le_of_ble_eq_true rfl, Nat.le_of_ble_eq_true rfl⟩ rfl C3.2.1 (Nat.le_of_ble_eq_true rfl) (dk rfl) ?_
  intro v h4 G
  have Gf := gvP.ap G ((f2.frC C.1).trans (f3.frC S2)) (upF_fs H (i := 30) (by omega) _) O hi (TW_used rk.ao wj)
  have e : aUse (nI k) (nI j) (nI i) st = giveS i (usedL rows nj) (nI (usedL rows nj).length) st := by
    unfold aUse
    rw [if_pos (okI_t hk (by decide)), if_pos (okI_t hj (by decide)), if_pos (okI_t hi (by decide)), xI_n (by omega), xI_n (by omega), xI_n (by omega), getD_of sk, getD_of sj]
  rw [← e] at Gf
  obtain ⟨g1, rfl, g3⟩ := Gf
  refine WRX.ret ?_
  exact reti_ok X hr hlk rfl (dk rfl) (⟨g1, rfl, g3⟩) (Nat.le_of_ble_eq_true rfl) (Nat.le_of_ble_eq_true rfl)
end S09
