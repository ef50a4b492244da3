/-! the law's loop, and the law from its entry (printed by wip/rows/genG5.py) -/
theorem sub6 {L i : Nat} (hL : L ≤ 384) (hi : i ≤ 400) : nI L - (Int8.ofInt 6).toInt32 < nI i ↔ L < i + 6 := by
  rw [Int32.lt_iff_toInt_lt, Int32.toInt_sub, show ((Int8.ofInt 6).toInt32).toInt = 6 by decide +kernel]
  have e1 : (nI L).toInt = (L : Int) := Int32.toInt_ofNat_of_lt (by omega)
  have e2 : (nI i).toInt = (i : Int) := Int32.toInt_ofNat_of_lt (by omega)
  rw [e1, e2]
  have e3 : ((L : Int) - 6).bmod (2 ^ 32) = (L : Int) - 6 := Int.bmod_eq_of_le (by omega) (by omega)
  rw [e3]
  omega
section LL
variable {p : Program} {la : Launch} {e : Env} {s : State} {m : MethodId} {args : Array Value} {below : List Frame} {meth : Method} {c : Code} {Q : State → Prop}
variable {D : va_G} {cA : Nat → ClassId} {B0 pa : Nat} {b L ox om oo : Nat} {xs : Nat → Int32} {BB QQ PP : Nat → Nat}
set_option maxHeartbeats 16000000 in
theorem law_loop (X : CX p s m args c D cA B0 7 cL_law RL) (E : EN D cA B0 pa s) (hl : la.stackTraces = false) (SC : Scr b L xs s B0) (Y : LYO BB QQ)
    (fin : ∀ (k n : Nat) (l : List (Nat × Value)) (h : AH), k ≤ 600128 → n ≤ 7301098 → WS p la e room_1 s m args below meth c Q D cA B0 7 1919 l [.int 1] h k n) :
    ∀ (d t : Nat) (h : AH) (kn : Int32), L < 6 * t + 6 * d → t ≤ 64 → LwI BB QQ PP h ox om oo kn → ∀ l : List (Nat × Value), lsel l [4, 3, 2, 1, 0] = [(4, vI (6 * t)), (3, .ref oo), (2, .ref om), (1, .ref ox), (0, .ref b)] → WS p la e room_1 s m args below meth c Q D cA B0 7 27 l [] h (178 + 9300 * t) (2585 + 113000 * t) := by
  have dka : ∀ {pc : Nat} {q : Instr × Nat}, lkd DL_a pc = some q → decode cL_law pc = .ok q := lkd_ok DL_a_ok
  have dkz : ∀ {pc : Nat} {q : Instr × Nat}, lkd DL_z pc = some q → decode cL_law pc = .ok q := lkd_ok DL_z_ok
  have hL := SC.2.2.2
  intro d
  induction d with
  | zero =>
    intro t h kn hd ht V l hsl
    refine WS.sel [4, 3, 2, 1, 0] hsl ?_
    iterate 2 refine fst1_ok X (dka rfl) rfl ?_
    refine slen_ok X SC (dka rfl) ?_
    iterate 2 refine fst1_ok X (dka rfl) rfl ?_
    refine br_ok X (dka rfl) rfl (show ((34 : Nat) : Int) + 1884 = ((1918 : Nat) : Int) from rfl) (fun _ => ?_) (fun q => absurd ((sub6 hL (by omega)).mpr (by omega)) q)
    refine fst1_ok X (dkz rfl) rfl ?_
    exact fin _ _ _ _ (by omega) (by omega)
  | succ d ih =>
    intro t h kn hd ht V l hsl
    refine WS.sel [4, 3, 2, 1, 0] hsl ?_
    iterate 2 refine fst1_ok X (dka rfl) rfl ?_
    refine slen_ok X SC (dka rfl) ?_
    iterate 2 refine fst1_ok X (dka rfl) rfl ?_
    refine br_ok X (dka rfl) rfl (show ((34 : Nat) : Int) + 1884 = ((1918 : Nat) : Int) from rfl) (fun _ => ?_) (fun q => ?_)
    · refine fst1_ok X (dkz rfl) rfl ?_
      exact fin _ _ _ _ (by omega) (by omega)
    · have hi : 6 * t + 6 ≤ L := by
        rcases Nat.lt_or_ge L (6 * t + 6) with z | z
        · exact absurd ((sub6 hL (by omega)).mpr z) q
        · exact z
      have nxt : ∀ (h' : AH) (kn' : Int32), LwI BB QQ PP h' ox om oo kn' → ∀ l' : List (Nat × Value), lsel l' [4, 3, 2, 1, 0] = [(4, vI (6 * t)), (3, .ref oo), (2, .ref om), (1, .ref ox), (0, .ref b)] → WS p la e room_1 s m args below meth c Q D cA B0 7 1912 l' [] h' (178 + 9300 * t + 9300) (2585 + 113000 * t + 113000) := by
        intro h' kn' V' l' hsl'
        refine WS.sel [4, 3, 2, 1, 0] hsl' ?_
        refine fst1_ok X (dkz rfl) rfl ?_
        refine br_ok X (dkz rfl) rfl (show ((1915 : Nat) : Int) + (-1888) = ((27 : Nat) : Int) from rfl) (fun _ => ?_) (fun q => absurd trivial q)
        have f2 : Value.int (nI (6 * t) + Int32.ofInt 6) = vI (6 * (t + 1)) := congrArg Value.int (by rw [show Int32.ofInt 6 = nI 6 by decide +kernel, nI_add, show 6 * (t + 1) = 6 * t + 6 by omega])
        refine WS.sel (l' := [(4, vI (6 * (t + 1))), (3, .ref oo), (2, .ref om), (1, .ref ox), (0, .ref b)]) [4, 3, 2, 1, 0] (by rw [← f2]; rfl) ?_
        exact WS.widen (by omega) (by omega) (ih (t + 1) h' kn' (by omega) (by omega) V' _ rfl)
      iterate 2 refine fst1_ok X (dka rfl) rfl ?_
      refine sld0_ok X SC (by omega) (dka rfl) (fun x => ?_)
      iterate 2 refine fst1_ok X (dka rfl) rfl ?_
      obtain ⟨w, hw, e0⟩ := i63 x
      rw [e0]
      match w, hw with
      | 0, _ =>
        refine tsw_ok X (off := 180) (tgt := 224) (dka rfl) (by decide +kernel) (by decide +kernel) (by decide +kernel) rfl ?_
        exact law_c0 X E hl SC hi Y V ⟨by omega, by omega⟩ nxt _ rfl
      | 1, _ =>
        refine tsw_ok X (off := 220) (tgt := 264) (dka rfl) (by decide +kernel) (by decide +kernel) (by decide +kernel) rfl ?_
        exact law_c1 X E hl SC hi Y V ⟨by omega, by omega⟩ nxt _ rfl
      | 2, _ =>
        refine tsw_ok X (off := 296) (tgt := 340) (dka rfl) (by decide +kernel) (by decide +kernel) (by decide +kernel) rfl ?_
        exact law_c2 X E hl SC hi Y V ⟨by omega, by omega⟩ nxt _ rfl
      | 3, _ =>
        refine tsw_ok X (off := 336) (tgt := 380) (dka rfl) (by decide +kernel) (by decide +kernel) (by decide +kernel) rfl ?_
        exact law_c3 X E hl SC hi Y V ⟨by omega, by omega⟩ nxt _ rfl
      | 4, _ =>
        refine tsw_ok X (off := 376) (tgt := 420) (dka rfl) (by decide +kernel) (by decide +kernel) (by decide +kernel) rfl ?_
        exact law_c4 X E hl SC hi Y V ⟨by omega, by omega⟩ nxt _ rfl
      | 5, _ =>
        refine tsw_ok X (off := 457) (tgt := 501) (dka rfl) (by decide +kernel) (by decide +kernel) (by decide +kernel) rfl ?_
        exact law_c5 X E hl SC hi Y V ⟨by omega, by omega⟩ nxt _ rfl
      | 6, _ =>
        refine tsw_ok X (off := 509) (tgt := 553) (dka rfl) (by decide +kernel) (by decide +kernel) (by decide +kernel) rfl ?_
        exact law_c6 X E hl SC hi Y V ⟨by omega, by omega⟩ nxt _ rfl
      | 7, _ =>
        refine tsw_ok X (off := 561) (tgt := 605) (dka rfl) (by decide +kernel) (by decide +kernel) (by decide +kernel) rfl ?_
        exact law_c7 X E hl SC hi Y V ⟨by omega, by omega⟩ nxt _ rfl
      | 8, _ =>
        refine tsw_ok X (off := 601) (tgt := 645) (dka rfl) (by decide +kernel) (by decide +kernel) (by decide +kernel) rfl ?_
        exact law_c8 X E hl SC hi Y V ⟨by omega, by omega⟩ nxt _ rfl
      | 9, _ =>
        refine tsw_ok X (off := 629) (tgt := 673) (dka rfl) (by decide +kernel) (by decide +kernel) (by decide +kernel) rfl ?_
        exact law_c9 X E hl SC hi Y V ⟨by omega, by omega⟩ nxt _ rfl
      | 10, _ =>
        refine tsw_ok X (off := 681) (tgt := 725) (dka rfl) (by decide +kernel) (by decide +kernel) (by decide +kernel) rfl ?_
        exact law_c10 X E hl SC hi Y V ⟨by omega, by omega⟩ nxt _ rfl
      | 11, _ =>
        refine tsw_ok X (off := 733) (tgt := 777) (dka rfl) (by decide +kernel) (by decide +kernel) (by decide +kernel) rfl ?_
        exact law_c11 X E hl SC hi Y V ⟨by omega, by omega⟩ nxt _ rfl
      | 12, _ =>
        refine tsw_ok X (off := 761) (tgt := 805) (dka rfl) (by decide +kernel) (by decide +kernel) (by decide +kernel) rfl ?_
        exact law_c12 X E hl SC hi Y V ⟨by omega, by omega⟩ nxt _ rfl
      | 13, _ =>
        refine tsw_ok X (off := 813) (tgt := 857) (dka rfl) (by decide +kernel) (by decide +kernel) (by decide +kernel) rfl ?_
        exact law_c13 X E hl SC hi Y V ⟨by omega, by omega⟩ nxt _ rfl
      | 14, _ =>
        refine tsw_ok X (off := 853) (tgt := 897) (dka rfl) (by decide +kernel) (by decide +kernel) (by decide +kernel) rfl ?_
        exact law_c14 X E hl SC hi Y V ⟨by omega, by omega⟩ nxt _ rfl
      | 15, _ =>
        refine tsw_ok X (off := 905) (tgt := 949) (dka rfl) (by decide +kernel) (by decide +kernel) (by decide +kernel) rfl ?_
        exact law_c15 X E hl SC hi Y V ⟨by omega, by omega⟩ nxt _ rfl
      | 16, _ =>
        refine tsw_ok X (off := 969) (tgt := 1013) (dka rfl) (by decide +kernel) (by decide +kernel) (by decide +kernel) rfl ?_
        exact law_c16 X E hl SC hi Y V ⟨by omega, by omega⟩ nxt _ rfl
      | 17, _ =>
        refine tsw_ok X (off := 1021) (tgt := 1065) (dka rfl) (by decide +kernel) (by decide +kernel) (by decide +kernel) rfl ?_
        exact law_c17 X E hl SC hi Y V ⟨by omega, by omega⟩ nxt _ rfl
      | 18, _ =>
        refine tsw_ok X (off := 1049) (tgt := 1093) (dka rfl) (by decide +kernel) (by decide +kernel) (by decide +kernel) rfl ?_
        exact law_c18 X E hl SC hi Y V ⟨by omega, by omega⟩ nxt _ rfl
      | 19, _ =>
        refine tsw_ok X (off := 1077) (tgt := 1121) (dka rfl) (by decide +kernel) (by decide +kernel) (by decide +kernel) rfl ?_
        exact law_c19 X E hl SC hi Y V ⟨by omega, by omega⟩ nxt _ rfl
      | 20, _ =>
        refine tsw_ok X (off := 1105) (tgt := 1149) (dka rfl) (by decide +kernel) (by decide +kernel) (by decide +kernel) rfl ?_
        exact law_c20 X E hl SC hi Y V ⟨by omega, by omega⟩ nxt _ rfl
      | 21, _ =>
        refine tsw_ok X (off := 1133) (tgt := 1177) (dka rfl) (by decide +kernel) (by decide +kernel) (by decide +kernel) rfl ?_
        exact law_c21 X E hl SC hi Y V ⟨by omega, by omega⟩ nxt _ rfl
      | 22, _ =>
        refine tsw_ok X (off := 1173) (tgt := 1217) (dka rfl) (by decide +kernel) (by decide +kernel) (by decide +kernel) rfl ?_
        exact law_c22 X E hl SC hi Y V ⟨by omega, by omega⟩ nxt _ rfl
      | 23, _ =>
        refine tsw_ok X (off := 1213) (tgt := 1257) (dka rfl) (by decide +kernel) (by decide +kernel) (by decide +kernel) rfl ?_
        exact law_c23 X E hl SC hi Y V ⟨by omega, by omega⟩ nxt _ rfl
      | 24, _ =>
        refine tsw_ok X (off := 1253) (tgt := 1297) (dka rfl) (by decide +kernel) (by decide +kernel) (by decide +kernel) rfl ?_
        exact law_c24 X E hl SC hi Y V ⟨by omega, by omega⟩ nxt _ rfl
      | 25, _ =>
        refine tsw_ok X (off := 1281) (tgt := 1325) (dka rfl) (by decide +kernel) (by decide +kernel) (by decide +kernel) rfl ?_
        exact law_c25 X E hl SC hi Y V ⟨by omega, by omega⟩ nxt _ rfl
      | 26, _ =>
        refine tsw_ok X (off := 1321) (tgt := 1365) (dka rfl) (by decide +kernel) (by decide +kernel) (by decide +kernel) rfl ?_
        exact law_c26 X E hl SC hi Y V ⟨by omega, by omega⟩ nxt _ rfl
      | 27, _ =>
        refine tsw_ok X (off := 1361) (tgt := 1405) (dka rfl) (by decide +kernel) (by decide +kernel) (by decide +kernel) rfl ?_
        exact law_c27 X E hl SC hi Y V ⟨by omega, by omega⟩ nxt _ rfl
      | 28, _ =>
        refine tsw_ok X (off := 1413) (tgt := 1457) (dka rfl) (by decide +kernel) (by decide +kernel) (by decide +kernel) rfl ?_
        exact law_c28 X E hl SC hi Y V ⟨by omega, by omega⟩ nxt _ rfl
      | 29, _ =>
        refine tsw_ok X (off := 1465) (tgt := 1509) (dka rfl) (by decide +kernel) (by decide +kernel) (by decide +kernel) rfl ?_
        exact law_c29 X E hl SC hi Y V ⟨by omega, by omega⟩ nxt _ rfl
      | 30, _ =>
        refine tsw_ok X (off := 1505) (tgt := 1549) (dka rfl) (by decide +kernel) (by decide +kernel) (by decide +kernel) rfl ?_
        exact law_c30 X E hl SC hi Y V ⟨by omega, by omega⟩ nxt _ rfl
      | 31, _ =>
        refine tsw_ok X (off := 1545) (tgt := 1589) (dka rfl) (by decide +kernel) (by decide +kernel) (by decide +kernel) rfl ?_
        exact law_c31 X E hl SC hi Y V ⟨by omega, by omega⟩ nxt _ rfl
      | 32, _ =>
        refine tsw_ok X (off := 1585) (tgt := 1629) (dka rfl) (by decide +kernel) (by decide +kernel) (by decide +kernel) rfl ?_
        exact law_c32 X E hl SC hi Y V ⟨by omega, by omega⟩ nxt _ rfl
      | 33, _ =>
        refine tsw_ok X (off := 1613) (tgt := 1657) (dka rfl) (by decide +kernel) (by decide +kernel) (by decide +kernel) rfl ?_
        exact law_c33 X E hl SC hi Y V ⟨by omega, by omega⟩ nxt _ rfl
      | 34, _ =>
        refine tsw_ok X (off := 1665) (tgt := 1709) (dka rfl) (by decide +kernel) (by decide +kernel) (by decide +kernel) rfl ?_
        exact law_c34 X E hl SC hi Y V ⟨by omega, by omega⟩ nxt _ rfl
      | 35, _ =>
        refine tsw_ok X (off := 1705) (tgt := 1749) (dka rfl) (by decide +kernel) (by decide +kernel) (by decide +kernel) rfl ?_
        exact law_c35 X E hl SC hi Y V ⟨by omega, by omega⟩ nxt _ rfl
      | 36, _ =>
        refine tsw_ok X (off := 1745) (tgt := 1789) (dka rfl) (by decide +kernel) (by decide +kernel) (by decide +kernel) rfl ?_
        exact law_c36 X E hl SC hi Y V ⟨by omega, by omega⟩ nxt _ rfl
      | 37, _ =>
        refine tsw_ok X (off := 1801) (tgt := 1845) (dka rfl) (by decide +kernel) (by decide +kernel) (by decide +kernel) rfl ?_
        exact law_c37 X E hl SC hi Y V ⟨by omega, by omega⟩ nxt _ rfl
      | 38, _ =>
        refine tsw_ok X (off := 1829) (tgt := 1873) (dka rfl) (by decide +kernel) (by decide +kernel) (by decide +kernel) rfl ?_
        exact law_c38 X E hl SC hi Y V ⟨by omega, by omega⟩ nxt _ rfl
      | 39, _ =>
        refine tsw_ok X (off := 1842) (tgt := 1886) (dka rfl) (by decide +kernel) (by decide +kernel) (by decide +kernel) rfl ?_
        exact law_c39 X E hl SC hi Y V ⟨by omega, by omega⟩ nxt _ rfl
      | 40, _ =>
        refine tsw_ok X (off := 1855) (tgt := 1899) (dka rfl) (by decide +kernel) (by decide +kernel) (by decide +kernel) rfl ?_
        exact law_c40 X E hl SC hi Y V ⟨by omega, by omega⟩ nxt _ rfl
      | w + 41, hw =>
        have e1 : (nI (w + 41)).toInt = ((w + 41 : Nat) : Int) := Int32.toInt_ofNat_of_lt (by omega)
        refine tswo_ok X (tgt := 1912) (dka rfl) (Or.inr (by rw [e1]; omega)) rfl ?_
        exact WS.widen (by omega) (by omega) (nxt _ _ V _ rfl)
end LL
set_option maxHeartbeats 8000000 in
/-- the law, from its entry -/
theorem whole_start {p : Program} {e : Env} {s : State} {m : MethodId} {below : List Frame} {meth : Method} {c : Code} (l : Launch) (hflags : l.flags = flags0) {b L : Nat} {xs : Nat → Int32} (hL : L ≤ 384) (C0 : lw_At p s m meth c b L xs) : W p l e room_1 s m #[Value.ref b] below meth c s.heap [] 0 0 (lw_Z below #[Value.ref b] s) (entryFrame m ([Value.ref b] : List Value).toArray 7) := by
  obtain ⟨hx, hb, hr, hml, hown, hts, hX, hbl, hlocks, hgv⟩ := id C0
  obtain ⟨D, cA, pa, E⟩ := law_env hts hgv
  have X : CX p s m #[Value.ref b] c D cA s.heap.size 7 cL_law RL := ⟨hx, hb, hml, hown, law_words hts, E.1, Nat.le_refl _⟩
  have hl0 : l.stackTraces = false := by
    unfold Launch.stackTraces
    rw [hflags]
    decide
  have SC : Scr b L xs s s.heap.size := ⟨hX, hbl, by omega, hL⟩
  have dk : ∀ {pc : Nat} {q : Instr × Nat}, lkd DL_a pc = some q → decode cL_law pc = .ok q := lkd_ok DL_a_ok
  have dkz : ∀ {pc : Nat} {q : Instr × Nat}, lkd DL_z pc = some q → decode cL_law pc = .ok q := lkd_ok DL_z_ok
  have fin : ∀ (k n : Nat) (l0 : List (Nat × Value)) (h : AH), k ≤ 600128 → n ≤ 7301098 → WS p l e room_1 s m #[Value.ref b] below meth c (lw_Z below #[Value.ref b] s) D cA s.heap.size 7 1919 l0 [.int 1] h k n := by
    intro k n l0 h hk hn H locs ls hH hls
    refine va_forget (fun q hq => hH.2.2.2 q hq) ?_
    refine W.widen (k := 600128) (n := 7301098) hk hn ?_
    exact lw_ret hx hb hr hlocks (dkz rfl)
  have key : WS p l e room_1 s m #[Value.ref b] below meth c (lw_Z below #[Value.ref b] s) D cA s.heap.size 7 0 (lv_args 0 [.ref b]) [] (fun _ => none) 0 0 := by
    refine new_ok X ncL_8 (dk rfl) (Nat.le_of_ble_eq_true rfl) (Nat.le_of_ble_eq_true rfl) (fun o1 q1 B1 => ?_)
    refine fst1_ok X (dk rfl) rfl ?_
    refine callI_ok (av := []) (r := [.ref o1]) X E (n6_init _ (hup_self _ _ _)) lkX6_init mlL_147 lmX6_init rfl ⟨Nat.le_of_ble_eq_true rfl, Nat.le_of_ble_eq_true rfl⟩ ⟨Nat.le_of_ble_eq_true rfl, Nat.le_of_ble_eq_true rfl⟩ (Nat.le_of_ble_eq_true rfl) (dk rfl) ?_
    rintro _ h1 ⟨rfl, S0, A0, u1, u2, u3, u4, u5, u6, u7, u8, u9, p1, p2, p3, p4, ar5, ar6, b7, c7, r7, p7, d7, e7, b8, c8, r8, s8, f8, p8, d8, e8, p9, d9, e9, t5, t6, tS, N, g1, g2, g3, g4, g5, g6, g7, g8⟩
    obtain ⟨BB, QQ, PP, Y, C1, F1⟩ := new6_st g1 g2 g3 g4 g5 g6 g7 g8
    refine fst1_ok X (dk rfl) rfl ?_
    refine new_ok X ncL_148 (dk rfl) (Nat.le_of_ble_eq_true rfl) (Nat.le_of_ble_eq_true rfl) (fun o2 q2 B2 => ?_)
    refine fst1_ok X (dk rfl) rfl ?_
    refine callI_ok (av := []) (r := [.ref o2]) X E (RF.c_init10 _ (hup_self _ _ _)) lkX10_init mlL_150 lmX10_init rfl ⟨Nat.le_of_ble_eq_true rfl, Nat.le_of_ble_eq_true rfl⟩ ⟨Nat.le_of_ble_eq_true rfl, Nat.le_of_ble_eq_true rfl⟩ (Nat.le_of_ble_eq_true rfl) (dk rfl) ?_
    rintro _ h2 ⟨rfl, ⟨S, A, hS, hA, M⟩, F2⟩
    refine fst1_ok X (dk rfl) rfl ?_
    refine new_ok X ncL_14 (dk rfl) (Nat.le_of_ble_eq_true rfl) (Nat.le_of_ble_eq_true rfl) (fun o3 q3 B3 => ?_)
    refine fst1_ok X (dk rfl) rfl ?_
    refine callIN_ok (av := []) (r := [.ref o3]) X E (c7o_init _ (hup_self _ _ _)) lkX7_init mnL_151 lmX7_init rfl ⟨Nat.le_of_ble_eq_true rfl, Nat.le_of_ble_eq_true rfl⟩ ⟨Nat.le_of_ble_eq_true rfl, Nat.le_of_ble_eq_true rfl⟩ (Nat.le_of_ble_eq_true rfl) (dk rfl) ?_
    rintro _ h3 ⟨rfl, e3⟩
    iterate 3 refine fst1_ok X (dk rfl) rfl ?_
    have V : LwI BB QQ PP h3 o1 o2 o3 0 := by
      rw [e3]
      refine ⟨st0, C1.ck (fun {b k vs} e hc => ?_), ⟨_, _, hup_self _ _ _⟩, S, A, 0, M.ext (Ext.new q3 _)⟩
      have n2 : b ≠ o2 := fun z => by rw [z, q2] at e; cases e
      have e2 := F2 b (k, vs) n2 (by rw [hup_ne _ _ n2]; exact e)
      have n3 : b ≠ o3 := fun z => by rw [z, q3] at e2; cases e2
      rw [hup_ne _ _ n3]
      exact e2
    refine WS.widen (k' := 178 + 9300 * 0) (n' := 2585 + 113000 * 0) (Nat.le_of_ble_eq_true rfl) (Nat.le_of_ble_eq_true rfl) ?_
    exact law_loop X E hl0 SC Y fin 65 0 h3 0 (by omega) (by omega) V _ rfl
  have hl := lv_entry ([.ref b]) (n := 7) (Nat.le_of_ble_eq_true rfl)
  rw [lg_entry_eq]
  exact key s.heap [] _ ⟨(fun a c h => by cases h), va_S.rf⟩ hl
