/-! the law's loop, and the law from its entry (printed by wip/p40/genL3.py) -/
theorem sub6 {L i : Nat} (hL : L ≤ 384) (hi : i ≤ 400) : nI L - (Int8.ofInt 6).toInt32 < nI i ↔ L < i + 6 := by
  rw [Int32.lt_iff_toInt_lt, Int32.toInt_sub, show ((Int8.ofInt 6).toInt32).toInt = 6 by decide +kernel]
  have e1 : (nI L).toInt = (L : Int) := Int32.toInt_ofNat_of_lt (by omega)
  have e2 : (nI i).toInt = (i : Int) := Int32.toInt_ofNat_of_lt (by omega)
  rw [e1, e2]
  have e3 : ((L : Int) - 6).bmod (2 ^ 32) = (L : Int) - 6 := Int.bmod_eq_of_le (by omega) (by omega)
  rw [e3]
  omega
section LL
variable {p : Program} {la : Launch} {e : Env} {s : State} {m : MethodId} {args : Array Value} {below : List Frame} {meth : Method} {c : Code} {Q : State → Prop}
variable {D : va_G} {cA : Nat → ClassId} {B0 pa : Nat} {b L ox om oo : Nat} {xs : Nat → Int32}
set_option maxHeartbeats 16000000 in
theorem law_loop (X : CX p s m args c D cA B0 7 cL_law RL) (E : EN D cA B0 pa s) (hl : la.stackTraces = false) (SC : Scr b L xs s B0)
    (fin : ∀ (k n : Nat) (l : List (Nat × Value)) (h : AH), k ≤ 600128 → n ≤ 7301098 → WS p la e room_1 s m args below meth c Q D cA B0 7 1890 l [.int 1] h k n) :
    ∀ (d t : Nat) (Γ : TY) (h : AH) (kn : Int32), L < 6 * t + 6 * d → t ≤ 64 → LwI Γ h ox om oo kn kn → ∀ l : List (Nat × Value), lsel l [4, 3, 2, 1, 0] = [(4, vI (6 * t)), (3, .ref oo), (2, .ref om), (1, .ref ox), (0, .ref b)] → WS p la e room_1 s m args below meth c Q D cA B0 7 27 l [] h (178 + 9300 * t) (2585 + 113000 * t) := by
  have dka : ∀ {pc : Nat} {q : Instr × Nat}, lkd DL_a pc = some q → decode cL_law pc = .ok q := lkd_ok DL_a_ok
  have dkz : ∀ {pc : Nat} {q : Instr × Nat}, lkd DL_z pc = some q → decode cL_law pc = .ok q := lkd_ok DL_z_ok
  have hL := SC.2.2.2
  intro d
  induction d with
  | zero =>
    intro t Γ h kn hd ht V l hsl
    refine WS.sel [4, 3, 2, 1, 0] hsl ?_
    iterate 2 refine fst1_ok X (dka rfl) rfl ?_
    refine slen_ok X SC (dka rfl) ?_
    iterate 2 refine fst1_ok X (dka rfl) rfl ?_
    refine br_ok X (dka rfl) rfl (show ((34 : Nat) : Int) + 1855 = ((1889 : Nat) : Int) from rfl) (fun _ => ?_) (fun q => absurd ((sub6 hL (by omega)).mpr (by omega)) q)
    refine fst1_ok X (dkz rfl) rfl ?_
    exact fin _ _ _ _ (by omega) (by omega)
  | succ d ih =>
    intro t Γ h kn hd ht V l hsl
    refine WS.sel [4, 3, 2, 1, 0] hsl ?_
    iterate 2 refine fst1_ok X (dka rfl) rfl ?_
    refine slen_ok X SC (dka rfl) ?_
    iterate 2 refine fst1_ok X (dka rfl) rfl ?_
    refine br_ok X (dka rfl) rfl (show ((34 : Nat) : Int) + 1855 = ((1889 : Nat) : Int) from rfl) (fun _ => ?_) (fun q => ?_)
    · refine fst1_ok X (dkz rfl) rfl ?_
      exact fin _ _ _ _ (by omega) (by omega)
    · have hi : 6 * t + 6 ≤ L := by
        rcases Nat.lt_or_ge L (6 * t + 6) with z | z
        · exact absurd ((sub6 hL (by omega)).mpr z) q
        · exact z
      have nxt : ∀ (Γ' : TY) (h' : AH) (kn' : Int32), LwI Γ' h' ox om oo kn' kn' → ∀ l' : List (Nat × Value), lsel l' [4, 3, 2, 1, 0] = [(4, vI (6 * t)), (3, .ref oo), (2, .ref om), (1, .ref ox), (0, .ref b)] → WS p la e room_1 s m args below meth c Q D cA B0 7 1883 l' [] h' (178 + 9300 * t + 9300) (2585 + 113000 * t + 113000) := by
        intro Γ' h' kn' V' l' hsl'
        refine WS.sel [4, 3, 2, 1, 0] hsl' ?_
        refine fst1_ok X (dkz rfl) rfl ?_
        refine br_ok X (dkz rfl) rfl (show ((1886 : Nat) : Int) + (-1859) = ((27 : Nat) : Int) from rfl) (fun _ => ?_) (fun q => absurd trivial q)
        have f2 : Value.int (nI (6 * t) + Int32.ofInt 6) = vI (6 * (t + 1)) := congrArg Value.int (by rw [show Int32.ofInt 6 = nI 6 by decide +kernel, nI_add, show 6 * (t + 1) = 6 * t + 6 by omega])
        refine WS.sel (l' := [(4, vI (6 * (t + 1))), (3, .ref oo), (2, .ref om), (1, .ref ox), (0, .ref b)]) [4, 3, 2, 1, 0] (by rw [← f2]; rfl) ?_
        exact WS.widen (by omega) (by omega) (ih (t + 1) Γ' h' kn' (by omega) (by omega) V' _ rfl)
      iterate 2 refine fst1_ok X (dka rfl) rfl ?_
      refine sld0_ok X SC (by omega) (dka rfl) (fun x => ?_)
      iterate 2 refine fst1_ok X (dka rfl) rfl ?_
      obtain ⟨w, hw, e0⟩ := i63 x
      rw [e0]
      match w, hw with
      | 0, _ =>
        refine tsw_ok X (off := 180) (tgt := 224) (dka rfl) (by decide +kernel) (by decide +kernel) (by decide +kernel) rfl ?_
        exact law_c0 X E hl SC hi V ⟨by omega, by omega⟩ nxt _ rfl
      | 1, _ =>
        refine tsw_ok X (off := 220) (tgt := 264) (dka rfl) (by decide +kernel) (by decide +kernel) (by decide +kernel) rfl ?_
        exact law_c1 X E hl SC hi V ⟨by omega, by omega⟩ nxt _ rfl
      | 2, _ =>
        refine tsw_ok X (off := 296) (tgt := 340) (dka rfl) (by decide +kernel) (by decide +kernel) (by decide +kernel) rfl ?_
        exact law_c2 X E hl SC hi V ⟨by omega, by omega⟩ nxt _ rfl
      | 3, _ =>
        refine tsw_ok X (off := 336) (tgt := 380) (dka rfl) (by decide +kernel) (by decide +kernel) (by decide +kernel) rfl ?_
        exact law_c3 X E hl SC hi V ⟨by omega, by omega⟩ nxt _ rfl
      | 4, _ =>
        refine tsw_ok X (off := 376) (tgt := 420) (dka rfl) (by decide +kernel) (by decide +kernel) (by decide +kernel) rfl ?_
        exact law_c4 X E hl SC hi V ⟨by omega, by omega⟩ nxt _ rfl
      | 5, _ =>
        refine tsw_ok X (off := 428) (tgt := 472) (dka rfl) (by decide +kernel) (by decide +kernel) (by decide +kernel) rfl ?_
        exact law_c5 X E hl SC hi V ⟨by omega, by omega⟩ nxt _ rfl
      | 6, _ =>
        refine tsw_ok X (off := 480) (tgt := 524) (dka rfl) (by decide +kernel) (by decide +kernel) (by decide +kernel) rfl ?_
        exact law_c6 X E hl SC hi V ⟨by omega, by omega⟩ nxt _ rfl
      | 7, _ =>
        refine tsw_ok X (off := 532) (tgt := 576) (dka rfl) (by decide +kernel) (by decide +kernel) (by decide +kernel) rfl ?_
        exact law_c7 X E hl SC hi V ⟨by omega, by omega⟩ nxt _ rfl
      | 8, _ =>
        refine tsw_ok X (off := 572) (tgt := 616) (dka rfl) (by decide +kernel) (by decide +kernel) (by decide +kernel) rfl ?_
        exact law_c8 X E hl SC hi V ⟨by omega, by omega⟩ nxt _ rfl
      | 9, _ =>
        refine tsw_ok X (off := 600) (tgt := 644) (dka rfl) (by decide +kernel) (by decide +kernel) (by decide +kernel) rfl ?_
        exact law_c9 X E hl SC hi V ⟨by omega, by omega⟩ nxt _ rfl
      | 10, _ =>
        refine tsw_ok X (off := 652) (tgt := 696) (dka rfl) (by decide +kernel) (by decide +kernel) (by decide +kernel) rfl ?_
        exact law_c10 X E hl SC hi V ⟨by omega, by omega⟩ nxt _ rfl
      | 11, _ =>
        refine tsw_ok X (off := 704) (tgt := 748) (dka rfl) (by decide +kernel) (by decide +kernel) (by decide +kernel) rfl ?_
        exact law_c11 X E hl SC hi V ⟨by omega, by omega⟩ nxt _ rfl
      | 12, _ =>
        refine tsw_ok X (off := 732) (tgt := 776) (dka rfl) (by decide +kernel) (by decide +kernel) (by decide +kernel) rfl ?_
        exact law_c12 X E hl SC hi V ⟨by omega, by omega⟩ nxt _ rfl
      | 13, _ =>
        refine tsw_ok X (off := 784) (tgt := 828) (dka rfl) (by decide +kernel) (by decide +kernel) (by decide +kernel) rfl ?_
        exact law_c13 X E hl SC hi V ⟨by omega, by omega⟩ nxt _ rfl
      | 14, _ =>
        refine tsw_ok X (off := 824) (tgt := 868) (dka rfl) (by decide +kernel) (by decide +kernel) (by decide +kernel) rfl ?_
        exact law_c14 X E hl SC hi V ⟨by omega, by omega⟩ nxt _ rfl
      | 15, _ =>
        refine tsw_ok X (off := 876) (tgt := 920) (dka rfl) (by decide +kernel) (by decide +kernel) (by decide +kernel) rfl ?_
        exact law_c15 X E hl SC hi V ⟨by omega, by omega⟩ nxt _ rfl
      | 16, _ =>
        refine tsw_ok X (off := 940) (tgt := 984) (dka rfl) (by decide +kernel) (by decide +kernel) (by decide +kernel) rfl ?_
        exact law_c16 X E hl SC hi V ⟨by omega, by omega⟩ nxt _ rfl
      | 17, _ =>
        refine tsw_ok X (off := 992) (tgt := 1036) (dka rfl) (by decide +kernel) (by decide +kernel) (by decide +kernel) rfl ?_
        exact law_c17 X E hl SC hi V ⟨by omega, by omega⟩ nxt _ rfl
      | 18, _ =>
        refine tsw_ok X (off := 1020) (tgt := 1064) (dka rfl) (by decide +kernel) (by decide +kernel) (by decide +kernel) rfl ?_
        exact law_c18 X E hl SC hi V ⟨by omega, by omega⟩ nxt _ rfl
      | 19, _ =>
        refine tsw_ok X (off := 1048) (tgt := 1092) (dka rfl) (by decide +kernel) (by decide +kernel) (by decide +kernel) rfl ?_
        exact law_c19 X E hl SC hi V ⟨by omega, by omega⟩ nxt _ rfl
      | 20, _ =>
        refine tsw_ok X (off := 1076) (tgt := 1120) (dka rfl) (by decide +kernel) (by decide +kernel) (by decide +kernel) rfl ?_
        exact law_c20 X E hl SC hi V ⟨by omega, by omega⟩ nxt _ rfl
      | 21, _ =>
        refine tsw_ok X (off := 1104) (tgt := 1148) (dka rfl) (by decide +kernel) (by decide +kernel) (by decide +kernel) rfl ?_
        exact law_c21 X E hl SC hi V ⟨by omega, by omega⟩ nxt _ rfl
      | 22, _ =>
        refine tsw_ok X (off := 1144) (tgt := 1188) (dka rfl) (by decide +kernel) (by decide +kernel) (by decide +kernel) rfl ?_
        exact law_c22 X E hl SC hi V ⟨by omega, by omega⟩ nxt _ rfl
      | 23, _ =>
        refine tsw_ok X (off := 1184) (tgt := 1228) (dka rfl) (by decide +kernel) (by decide +kernel) (by decide +kernel) rfl ?_
        exact law_c23 X E hl SC hi V ⟨by omega, by omega⟩ nxt _ rfl
      | 24, _ =>
        refine tsw_ok X (off := 1224) (tgt := 1268) (dka rfl) (by decide +kernel) (by decide +kernel) (by decide +kernel) rfl ?_
        exact law_c24 X E hl SC hi V ⟨by omega, by omega⟩ nxt _ rfl
      | 25, _ =>
        refine tsw_ok X (off := 1252) (tgt := 1296) (dka rfl) (by decide +kernel) (by decide +kernel) (by decide +kernel) rfl ?_
        exact law_c25 X E hl SC hi V ⟨by omega, by omega⟩ nxt _ rfl
      | 26, _ =>
        refine tsw_ok X (off := 1292) (tgt := 1336) (dka rfl) (by decide +kernel) (by decide +kernel) (by decide +kernel) rfl ?_
        exact law_c26 X E hl SC hi V ⟨by omega, by omega⟩ nxt _ rfl
      | 27, _ =>
        refine tsw_ok X (off := 1332) (tgt := 1376) (dka rfl) (by decide +kernel) (by decide +kernel) (by decide +kernel) rfl ?_
        exact law_c27 X E hl SC hi V ⟨by omega, by omega⟩ nxt _ rfl
      | 28, _ =>
        refine tsw_ok X (off := 1384) (tgt := 1428) (dka rfl) (by decide +kernel) (by decide +kernel) (by decide +kernel) rfl ?_
        exact law_c28 X E hl SC hi V ⟨by omega, by omega⟩ nxt _ rfl
      | 29, _ =>
        refine tsw_ok X (off := 1436) (tgt := 1480) (dka rfl) (by decide +kernel) (by decide +kernel) (by decide +kernel) rfl ?_
        exact law_c29 X E hl SC hi V ⟨by omega, by omega⟩ nxt _ rfl
      | 30, _ =>
        refine tsw_ok X (off := 1476) (tgt := 1520) (dka rfl) (by decide +kernel) (by decide +kernel) (by decide +kernel) rfl ?_
        exact law_c30 X E hl SC hi V ⟨by omega, by omega⟩ nxt _ rfl
      | 31, _ =>
        refine tsw_ok X (off := 1516) (tgt := 1560) (dka rfl) (by decide +kernel) (by decide +kernel) (by decide +kernel) rfl ?_
        exact law_c31 X E hl SC hi V ⟨by omega, by omega⟩ nxt _ rfl
      | 32, _ =>
        refine tsw_ok X (off := 1556) (tgt := 1600) (dka rfl) (by decide +kernel) (by decide +kernel) (by decide +kernel) rfl ?_
        exact law_c32 X E hl SC hi V ⟨by omega, by omega⟩ nxt _ rfl
      | 33, _ =>
        refine tsw_ok X (off := 1584) (tgt := 1628) (dka rfl) (by decide +kernel) (by decide +kernel) (by decide +kernel) rfl ?_
        exact law_c33 X E hl SC hi V ⟨by omega, by omega⟩ nxt _ rfl
      | 34, _ =>
        refine tsw_ok X (off := 1636) (tgt := 1680) (dka rfl) (by decide +kernel) (by decide +kernel) (by decide +kernel) rfl ?_
        exact law_c34 X E hl SC hi V ⟨by omega, by omega⟩ nxt _ rfl
      | 35, _ =>
        refine tsw_ok X (off := 1676) (tgt := 1720) (dka rfl) (by decide +kernel) (by decide +kernel) (by decide +kernel) rfl ?_
        exact law_c35 X E hl SC hi V ⟨by omega, by omega⟩ nxt _ rfl
      | 36, _ =>
        refine tsw_ok X (off := 1716) (tgt := 1760) (dka rfl) (by decide +kernel) (by decide +kernel) (by decide +kernel) rfl ?_
        exact law_c36 X E hl SC hi V ⟨by omega, by omega⟩ nxt _ rfl
      | 37, _ =>
        refine tsw_ok X (off := 1772) (tgt := 1816) (dka rfl) (by decide +kernel) (by decide +kernel) (by decide +kernel) rfl ?_
        exact law_c37 X E hl SC hi V ⟨by omega, by omega⟩ nxt _ rfl
      | 38, _ =>
        refine tsw_ok X (off := 1800) (tgt := 1844) (dka rfl) (by decide +kernel) (by decide +kernel) (by decide +kernel) rfl ?_
        exact law_c38 X E hl SC hi V ⟨by omega, by omega⟩ nxt _ rfl
      | 39, _ =>
        refine tsw_ok X (off := 1813) (tgt := 1857) (dka rfl) (by decide +kernel) (by decide +kernel) (by decide +kernel) rfl ?_
        exact law_c39 X E hl SC hi V ⟨by omega, by omega⟩ nxt _ rfl
      | 40, _ =>
        refine tsw_ok X (off := 1826) (tgt := 1870) (dka rfl) (by decide +kernel) (by decide +kernel) (by decide +kernel) rfl ?_
        exact law_c40 X E hl SC hi V ⟨by omega, by omega⟩ nxt _ rfl
      | w + 41, hw =>
        have e1 : (nI (w + 41)).toInt = ((w + 41 : Nat) : Int) := Int32.toInt_ofNat_of_lt (by omega)
        refine tswo_ok X (tgt := 1883) (dka rfl) (Or.inr (by rw [e1]; omega)) rfl ?_
        exact WS.widen (by omega) (by omega) (nxt _ _ _ V _ rfl)
end LL
theorem Tyg_none (h : AH) : Tyg (fun _ => none) h := fun a φ g => by cases g
theorem KG_none : KG (fun _ => none) := fun a φ g => by cases g
set_option maxHeartbeats 8000000 in
/-- the law, from its entry -/
theorem whole_start {p : Program} {e : Env} {s : State} {m : MethodId} {below : List Frame} {meth : Method} {c : Code} (l : Launch) (hflags : l.flags = flags0) {b L : Nat} {xs : Nat → Int32} (hL : L ≤ 384) (C0 : lw_At p s m meth c b L xs) : W p l e room_1 s m #[Value.ref b] below meth c s.heap [] 0 0 (lw_Z below #[Value.ref b] s) (entryFrame m ([Value.ref b] : List Value).toArray 7) := by
  obtain ⟨hx, hb, hr, hml, hown, hts, hX, hbl, hlocks, hgv⟩ := id C0
  obtain ⟨D, cA, pa, E⟩ := law_env hts hgv
  have X : CX p s m #[Value.ref b] c D cA s.heap.size 7 cL_law RL := ⟨hx, hb, hml, hown, law_words hts, E.1, Nat.le_refl _⟩
  have hl0 : l.stackTraces = false := by
    unfold Launch.stackTraces
    rw [hflags]
    decide
  have SC : Scr b L xs s s.heap.size := ⟨hX, hbl, by omega, hL⟩
  have dk : ∀ {pc : Nat} {q : Instr × Nat}, lkd DL_a pc = some q → decode cL_law pc = .ok q := lkd_ok DL_a_ok
  have dkz : ∀ {pc : Nat} {q : Instr × Nat}, lkd DL_z pc = some q → decode cL_law pc = .ok q := lkd_ok DL_z_ok
  have fin : ∀ (k n : Nat) (l0 : List (Nat × Value)) (h : AH), k ≤ 600128 → n ≤ 7301098 → WS p l e room_1 s m #[Value.ref b] below meth c (lw_Z below #[Value.ref b] s) D cA s.heap.size 7 1890 l0 [.int 1] h k n := by
    intro k n l0 h hk hn H locs ls hH hls
    refine va_forget (fun q hq => hH.2.2.2 q hq) ?_
    refine W.widen (k := 600128) (n := 7301098) hk hn ?_
    exact lw_ret hx hb hr hlocks (dkz rfl)
  have key : WS p l e room_1 s m #[Value.ref b] below meth c (lw_Z below #[Value.ref b] s) D cA s.heap.size 7 0 (lv_args 0 [.ref b]) [] (fun _ => none) 0 0 := by
    refine new_ok X ncL_8 (dk rfl) (Nat.le_of_ble_eq_true rfl) (Nat.le_of_ble_eq_true rfl) (fun o1 q1 B1 => ?_)
    refine fst1_ok X (dk rfl) rfl ?_
    refine callI_ok (av := []) (r := [.ref o1]) X E (c6_init _ (Tyg_none _) KG_none (hup_self _ _ _) rfl) lkX6_init mlL_147 lmX6_init rfl ⟨Nat.le_of_ble_eq_true rfl, Nat.le_of_ble_eq_true rfl⟩ ⟨Nat.le_of_ble_eq_true rfl, Nat.le_of_ble_eq_true rfl⟩ (Nat.le_of_ble_eq_true rfl) (dk rfl) ?_
    rintro _ h1 ⟨rfl, Γ1, sub1, H1, I1, K1, -⟩
    refine fst1_ok X (dk rfl) rfl ?_
    refine new_ok X ncL_148 (dk rfl) (Nat.le_of_ble_eq_true rfl) (Nat.le_of_ble_eq_true rfl) (fun o2 q2 B2 => ?_)
    refine fst1_ok X (dk rfl) rfl ?_
    refine callI_ok (av := []) (r := [.ref o2]) X E (c_init10 _ (hup_self _ _ _)) lkX10_init mlL_150 lmX10_init rfl ⟨Nat.le_of_ble_eq_true rfl, Nat.le_of_ble_eq_true rfl⟩ ⟨Nat.le_of_ble_eq_true rfl, Nat.le_of_ble_eq_true rfl⟩ (Nat.le_of_ble_eq_true rfl) (dk rfl) ?_
    rintro _ h2 ⟨rfl, ⟨S, A, sl, an, hS, hA, M⟩, F2⟩
    refine fst1_ok X (dk rfl) rfl ?_
    refine new_ok X ncL_14 (dk rfl) (Nat.le_of_ble_eq_true rfl) (Nat.le_of_ble_eq_true rfl) (fun o3 q3 B3 => ?_)
    refine fst1_ok X (dk rfl) rfl ?_
    refine callIN_ok (av := []) (r := [.ref o3]) X E (c7o_init _ (hup_self _ _ _)) lkX7_init mnL_151 lmX7_init rfl ⟨Nat.le_of_ble_eq_true rfl, Nat.le_of_ble_eq_true rfl⟩ ⟨Nat.le_of_ble_eq_true rfl, Nat.le_of_ble_eq_true rfl⟩ (Nat.le_of_ble_eq_true rfl) (dk rfl) ?_
    rintro _ h3 ⟨rfl, e3⟩
    iterate 3 refine fst1_ok X (dk rfl) rfl ?_
    have V : LwI Γ1 h3 o1 o2 o3 0 0 := by
      rw [e3]
      refine ⟨H1, fun a φ g => ?_, ⟨_, _, hup_self _ _ _⟩, S, A, sl, an, 0, 0, 0, M.ext (Ext.new q3 _)⟩
      obtain ⟨cc0, e1, hc⟩ := I1 a φ g
      have n2 : a ≠ o2 := fun z => by rw [z, q2] at e1; cases e1
      have e2 := F2 a cc0 n2 (by rw [hup_ne _ _ n2]; exact e1)
      have n3 : a ≠ o3 := fun z => by rw [z, q3] at e2; cases e2
      exact ⟨cc0, by rw [hup_ne _ _ n3]; exact e2, hc⟩
    refine WS.widen (k' := 178 + 9300 * 0) (n' := 2585 + 113000 * 0) (Nat.le_of_ble_eq_true rfl) (Nat.le_of_ble_eq_true rfl) ?_
    exact law_loop X E hl0 SC fin 65 0 Γ1 h3 0 (by omega) (by omega) V _ rfl
  have hl := lv_entry ([.ref b]) (n := 7) (Nat.le_of_ble_eq_true rfl)
  rw [lg_entry_eq]
  exact key s.heap [] _ ⟨(fun a c h => by cases h), va_S.rf⟩ hl
