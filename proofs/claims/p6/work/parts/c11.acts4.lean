/-! the class's acts, strongly: head, put, shift, plain (printed by wip/p20/genT1.py) -/
theorem nm8_get {k : Nat} (h : k < 8) : nm8[k]? = some [k] := by
  unfold nm8
  rw [List.getElem?_map, List.getElem?_range h]
  rfl
theorem nm8_len : nm8.length = 8 := rfl
theorem nm8_AO : AO nm8 := ⟨rfl, fun z hz => by
  unfold nm8 at hz
  rw [List.mem_map] at hz
  obtain ⟨n, hn, rfl⟩ := hz
  exact ⟨TW.name (List.mem_range.mp hn), Nat.le_of_ble_eq_true rfl⟩⟩
theorem AO_set {rows : List (List Nat)} (H : AO rows) {z : List Nat} (hz : TW z ∧ z.length ≤ 16) (k : Nat) : AO (rows.set k z) :=
  ⟨by rw [List.length_set]; exact H.1, fun x hx => (List.mem_or_eq_of_mem_set hx).elim (H.2 x) (fun e => by rw [e]; exact hz)⟩
theorem useL_nm {k y : Nat} (hk : k < 8) (hy : okL y) (z : List Nat) : useL (nm8.set k z) y = if y = k then z else [y] := by
  unfold useL
  rcases hy with h8 | h8
  · rw [if_pos (by omega), List.getD_eq_getElem?_getD]
    by_cases e : y = k
    · subst e
      rw [List.getElem?_set_self (by rw [nm8_len]; exact hk), if_pos rfl]
      rfl
    · rw [List.getElem?_set_ne (Ne.symm e), nm8_get h8, if_neg e]
      rfl
  · rw [if_neg (by omega), if_neg (by omega)]
theorem usedL_cons (rows : List (List Nat)) (x : Nat) (r : List Nat) : usedL rows (x :: r) = useL rows x ++ usedL rows r := List.flatMap_cons
def aPut (x1 x2 x3 : Int32) (st : ST) : RS := if okI 6 x1 then (if okI 6 x3 then (if okI 8 x2 then
  giveS (xI x1) (usedL (nm8.set (xI x2) (st.1.getD (xI x3) [])) (st.1.getD (xI x1) [])) (nI (oftenN (st.1.getD (xI x1) []) (xI x2))) st else ((2, 0), st)) else ((1, 0), st)) else ((1, 0), st)
def aShift (x1 x2 : Int32) (st : ST) : RS := if okI 6 x1 then (if okI 8 x2 then
  slS st (st.1.set (xI x1) ((st.1.getD (xI x1) []).map (shL (xI x2)))) (bcF (nI (namesN ((st.1.getD (xI x1) []).map (shL (xI x2)))))) else ((2, 0), st)) else ((1, 0), st)
/-- a term with its names counted from a on -/
def plP (ns : List Nat) : List Nat := ns.map (fun x => if x < 8 then cntN (namesN (ns.take (fpN x ns))) 8 else x)
theorem fpN_mem {x : Nat} : ∀ {ns : List Nat}, x ∈ ns → fpN x ns < ns.length
  | y :: r, h => by
    by_cases e : y = x
    · subst e
      rw [fpN_eq]
      exact Nat.zero_lt_succ _
    · rw [fpN_ne e]
      have := fpN_mem (ns := r) ((List.mem_cons.mp h).resolve_left (fun z => e z.symm))
      simp only [List.length_cons]
      omega
section S11
variable {la : Launch} {D : va_G} {cA : Nat → ClassId} {B0 pa : Nat} {B Q P : Nat → Nat} {ox : Nat} {kn : Int32} {F : Nat → TC}
set_option maxHeartbeats 8000000 in
theorem s5_becomePlainOf (h : AH) (Y : LYO B Q) (S : TS B Q h F) {i : Nat} (hi : i < 52) {j : Nat} (hj : j < 52) (hij : j ≠ i) {ns : List Nat} (hN : TN (F j) ns) (hle : ns.length ≤ rmI i) : CT la D cA B0 pa yX5_becomePlainOf cX5_becomePlainOf 4 none (rmD 2 0 0) [.ref (B i), .ref (B j)] h (TP B Q (upF F i ((plP ns).map nI, false)) h) := by
  refine CT_of (by decide +kernel) (Nat.le_of_ble_eq_true rfl) ?_
  intro p e s m args below meth c X E hr hlk hnm
  have dk : ∀ {pc : Nat} {q : Instr × Nat}, lkd DX5_becomePlainOf pc = some q → decode cX5_becomePlainOf pc = .ok q := lkd_ok DX5_becomePlainOf_ok
  have hL := rmI_le j
  have hlen := (S j hj).1
  rw [hN.len] at hlen
  have hsh : ∀ q, q ≤ ns.length → ((plP ns).take q).length = q := fun q hq => by rw [List.length_take]; unfold plP; rw [List.length_map]; omega
  have loop : ∀ (d q : Nat) (h1 : AH), d = ns.length - q → q ≤ ns.length → TS B Q h1 (upF F i (((plP ns).take q).map nI, false)) → FrT B Q h h1 → ∀ l : List (Nat × Value), lsel l [2, 1, 0] = [(2, vI q), (1, .ref (B j)), (0, .ref (B i))] → WR p la e (rmD 2 0 0) s m args below meth c D cA B0 4 (TP B Q (upF F i ((plP ns).map nI, false)) h) 6 l [] h1 0 0 := by
    intro d
    induction d with
    | zero =>
      intro q h1 hd hq S1 f1 l hl
      have hq2 : q = ns.length := by omega
      have c2 := (S1 j hj).2.1
      rw [upF_ne _ _ hij, hN.len] at c2
      refine WS.sel [2, 1, 0] hl ?_
      iterate 2 refine fst1_ok X (dk rfl) rfl ?_
      refine getf_ok X flX5_21 (dk rfl) c2 rfl ?_
      refine br_ok X (dk rfl) rfl (show ((11 : Nat) : Int) + 43 = ((54 : Nat) : Int) from rfl) (fun _ => ?_) (fun q => absurd (by rw [hq2]; exact Int32.le_refl _) q)
      rw [List.take_of_length_le (by unfold plP; rw [List.length_map]; omega)] at S1
      exact retv_ok X hr hlk (dk rfl) (⟨rfl, S1, f1⟩) (Nat.le_of_ble_eq_true rfl) (Nat.le_of_ble_eq_true rfl)
    | succ d ih =>
      intro q h1 hd hq S1 f1 l hl
      have c2 := (S1 j hj).2.1
      rw [upF_ne _ _ hij, hN.len] at c2
      obtain ⟨y, hy⟩ : ∃ y, ns[q]? = some y := ⟨_, List.getElem?_eq_getElem (by omega)⟩
      have hok := hN.2 y (List.mem_of_getElem? hy)
      have hyx := hok.lt
      have hN1 : TN (upF F i (((plP ns).take q).map nI, false) j) ns := by rw [upF_ne _ _ hij]; exact hN
      refine WS.sel [2, 1, 0] hl ?_
      iterate 2 refine fst1_ok X (dk rfl) rfl ?_
      refine getf_ok X flX5_21 (dk rfl) c2 rfl ?_
      refine br_ok X (dk rfl) rfl (show ((11 : Nat) : Int) + 43 = ((54 : Nat) : Int) from rfl) (fun q => absurd q (nI_ge (by omega) (by omega))) (fun _ => ?_)
      iterate 2 refine fst1_ok X (dk rfl) rfl ?_
      refine callVR_ok (ci := 7) (T := TX5) (N := 3) (av := [vI q]) (r := []) X E (s5_letterAt h1 S1 hj (nI q)) lkX5_letterAt mlX5_29 lmX5_letterAt lpX5_letterAt ⟨Nat.le_of_ble_eq_true rfl, Nat.le_of_ble_eq_true rfl⟩ ⟨Nat.le_of_ble_eq_true rfl, Nat.le_of_ble_eq_true rfl⟩ rfl ⟨_, (S1 j hj).2.1⟩ (Nat.le_of_ble_eq_true rfl) (dk rfl) ?_
      rintro _ rfl
      rw [hN1.lt hy (by omega)]
      iterate 3 refine fst1_ok X (dk rfl) rfl ?_
      refine callNR_ok (av := [vI y]) (r := [.ref (B i)]) X E (s6_isName h1 (x := y) (by omega)) lkX6_isName mnX5_44 lsX6_isName ⟨Nat.le_of_ble_eq_true rfl, Nat.le_of_ble_eq_true rfl⟩ ⟨Nat.le_of_ble_eq_true rfl, Nat.le_of_ble_eq_true rfl⟩ (Nat.le_of_ble_eq_true rfl) (dk rfl) ?_
      rintro _ rfl
      have f3 : Value.int (nI q + Int32.ofInt 1) = vI (q + 1) := congrArg Value.int (by rw [nI_1', nI_add])
      have hp2 : (plP ns)[q]? = some (if y < 8 then cntN (namesN (ns.take (fpN y ns))) 8 else y) := by
        unfold plP
        rw [List.getElem?_map, hy]
        rfl
      have nxt : ∀ (z : Nat), (plP ns)[q]? = some z → ∀ l : List (Nat × Value), lsel l [2, 1, 0] = [(2, vI q), (1, .ref (B j)), (0, .ref (B i))] → WR p la e (rmD 2 0 0) s m args below meth c D cA B0 4 (TP B Q (upF F i ((plP ns).map nI, false)) h) 45 l [vI z, .ref (B i)] h1 0 0 := by
        intro z hz l hl
        refine WS.sel [2, 1, 0] hl ?_
        refine callVT_ok (ci := 7) (T := TX5) (N := 3) (av := [vI z]) (r := []) X E (s5_add h1 Y S1 hi (nI z)) lkX5_add mlX5_33 lmX5_add lpX5_add ⟨Nat.le_of_ble_eq_true rfl, Nat.le_of_ble_eq_true rfl⟩ ⟨Nat.le_of_ble_eq_true rfl, Nat.le_of_ble_eq_true rfl⟩ rfl (S1 i hi).2.1 (Nat.le_of_ble_eq_true rfl) (dk rfl) (fun h2 S2 f2 => ?_)
        have e1 : addC (rmI i) (upF F i (((plP ns).take q).map nI, false) i) (nI z) = (((plP ns).take (q + 1)).map nI, false) := by
          rw [upF_self]
          unfold addC
          rw [if_pos (by show (((plP ns).take q).map nI).length < rmI i; rw [List.length_map, hsh q (by omega)]; omega), List.take_add_one, hz, List.map_append]
          rfl
        rw [e1, upF_up] at S2
        refine fst1_ok X (dk rfl) rfl ?_
        refine br_ok X (dk rfl) rfl (show ((51 : Nat) : Int) + (-45) = ((6 : Nat) : Int) from rfl) (fun _ => ?_) (fun q => absurd trivial q)
        refine WS.sel (l' := [(2, vI (q + 1)), (1, .ref (B j)), (0, .ref (B i))]) [2, 1, 0] (by rw [← f3]; rfl) ?_
        exact ih (q + 1) h2 (by omega) (by omega) S2 (f1.trans f2) _ rfl
      by_cases h8 : y < 8
      · rw [decide_eq_true h8]
        rw [if_pos h8] at hp2
        refine br_ok X (dk rfl) rfl (show ((25 : Nat) : Int) + 19 = ((44 : Nat) : Int) from rfl) (fun q => absurd q bI_t) (fun _ => ?_)
        iterate 4 refine fst1_ok X (dk rfl) rfl ?_
        refine callVR_ok (ci := 7) (T := TX5) (N := 3) (av := [vI y]) (r := [vI 0, .ref (B j), .ref (B i)]) X E (s5_firstPlaceOf h1 S1 hj hN1 (x := y) (by omega)) lkX5_firstPlaceOf mlX5_48 lmX5_firstPlaceOf lpX5_firstPlaceOf ⟨Nat.le_of_ble_eq_true rfl, Nat.le_of_ble_eq_true rfl⟩ ⟨Nat.le_of_ble_eq_true rfl, Nat.le_of_ble_eq_true rfl⟩ rfl ⟨_, (S1 j hj).2.1⟩ (Nat.le_of_ble_eq_true rfl) (dk rfl) ?_
        rintro _ rfl
        have hfp := fpN_mem (List.mem_of_getElem? hy)
        rw [if_pos hfp]
        refine callVR_ok (ci := 7) (T := TX5) (N := 3) (av := [vI 0, vI (fpN y ns)]) (r := [.ref (B i)]) X E (s5_namesIn h1 S1 hj hN1 (a := 0) (b := fpN y ns) (Nat.zero_le _) (by omega)) lkX5_namesIn mlX5_51 lmX5_namesIn lpX5_namesIn ⟨Nat.le_of_ble_eq_true rfl, Nat.le_of_ble_eq_true rfl⟩ ⟨Nat.le_of_ble_eq_true rfl, Nat.le_of_ble_eq_true rfl⟩ rfl ⟨_, (S1 j hj).2.1⟩ (Nat.le_of_ble_eq_true rfl) (dk rfl) ?_
        rintro _ rfl
        rw [List.drop_zero, Nat.sub_zero]
        refine callS_ok (av := [vI (namesN (ns.take (fpN y ns)))]) (r := [.ref (B i)]) X E (c_bitCount h1 _) lkJ6_bitCount_0f7a4 mlX5_54 lsJ6_bitCount_0f7a4 ⟨Nat.le_of_ble_eq_true rfl, Nat.le_of_ble_eq_true rfl⟩ ⟨Nat.le_of_ble_eq_true rfl, Nat.le_of_ble_eq_true rfl⟩ (Nat.le_of_ble_eq_true rfl) (dk rfl) ?_
        rintro v h' ⟨rfl, rfl⟩
        rw [(cnt_bc (namesN_lt (fun x hx => hN.2 x (List.mem_of_mem_take hx)))).1]
        refine br_ok X (dk rfl) rfl (show ((41 : Nat) : Int) + 4 = ((45 : Nat) : Int) from rfl) (fun _ => ?_) (fun q => absurd trivial q)
        exact nxt _ hp2 _ rfl
      · rw [decide_eq_false h8]
        rw [if_neg h8] at hp2
        refine br_ok X (dk rfl) rfl (show ((25 : Nat) : Int) + 19 = ((44 : Nat) : Int) from rfl) (fun _ => ?_) (fun q => absurd bI_f' q)
        refine fst1_ok X (dk rfl) rfl ?_
        exact nxt _ hp2 _ rfl
  refine fst1_ok X (dk rfl) rfl ?_
  refine callVT_ok (ci := 7) (T := TX5) (N := 3) (av := []) (r := []) X E (s5_empty h Y S hi) lkX5_empty mlX5_37 lmX5_empty lpX5_empty ⟨Nat.le_of_ble_eq_true rfl, Nat.le_of_ble_eq_true rfl⟩ ⟨Nat.le_of_ble_eq_true rfl, Nat.le_of_ble_eq_true rfl⟩ rfl (S i hi).2.1 (Nat.le_of_ble_eq_true rfl) (dk rfl) (fun h1 S1 f1 => ?_)
  iterate 2 refine fst1_ok X (dk rfl) rfl ?_
  exact loop _ 0 h1 rfl (Nat.zero_le _) (by rw [List.take_zero]; exact S1) f1 _ rfl
set_option maxHeartbeats 32000000 in
theorem s6_head (h : AH) (hl : la.stackTraces = false) (Y : LYO B Q) {st : ST} (C0 : StC B Q P ox kn h st) (x1 x2 x3 x4 x5 : Int32) : CTX la D cA B0 pa yX6_head cX6_head 12 (some .int) (rmD 7 5 30) [.ref ox, .int x1, .int x2, .int x3, .int x4, .int x5] h (AP B Q P ox kn (aHead x1 x2 x3 x4 x5 st) h) (AX (aHead x1 x2 x3 x4 x5 st) st h) := by
  refine CTX_of (by decide +kernel) (Nat.le_of_ble_eq_true rfl) ?_
  intro p e s m args below meth c X E hr hlk hnm ht
  have dk : ∀ {pc : Nat} {q : Instr × Nat}, lkd DX6_head pc = some q → decode cX6_head pc = .ok q := lkd_ok DX6_head_ok
  obtain ⟨F, C, H, O⟩ := id C0
  iterate 2 refine fst1_ok X (dk rfl) rfl ?_
  refine callVX_ok (ci := 8) (T := TX6) (N := 14) (av := [.int x1]) (r := []) X E ht hlk (s6_termOf h hl C x1) (fun E1 h1 z => AX.one (by unfold aHead; rw [if_neg (by rw [okI_f z.2.1]; decide)]) ⟨z.1, z.2.2⟩) lkX6_termOf mlX6_69 lmX6_termOf lpX6_termOf ⟨Nat.le_of_ble_eq_true rfl, Nat.le_of_ble_eq_true rfl⟩ ⟨Nat.le_of_ble_eq_true rfl, Nat.le_of_ble_eq_true rfl⟩ rfl C.2.1 (Nat.le_of_ble_eq_true rfl) (dk rfl) ?_
  rintro _ h1 ⟨⟨j, hj, rfl, rfl⟩, eh⟩
  obtain rfl := eh.symm
  iterate 3 refine fst1_ok X (dk rfl) rfl ?_
  refine callVX_ok (ci := 8) (T := TX6) (N := 14) (av := [.int x3]) (r := []) X E ht hlk (s6_termOf _ hl C x3) (fun E1 h1 z => AX.one (by unfold aHead; rw [if_pos (okI_t hj (by decide))]; rw [if_neg (by rw [okI_f z.2.1]; decide)]) ⟨z.1, z.2.2⟩) lkX6_termOf mlX6_69 lmX6_termOf lpX6_termOf ⟨Nat.le_of_ble_eq_true rfl, Nat.le_of_ble_eq_true rfl⟩ ⟨Nat.le_of_ble_eq_true rfl, Nat.le_of_ble_eq_true rfl⟩ rfl C.2.1 (Nat.le_of_ble_eq_true rfl) (dk rfl) ?_
  rintro _ h1 ⟨⟨ka, hka, rfl, rfl⟩, eh⟩
  obtain rfl := eh.symm
  iterate 3 refine fst1_ok X (dk rfl) rfl ?_
  refine callVX_ok (ci := 8) (T := TX6) (N := 14) (av := [.int x4]) (r := []) X E ht hlk (s6_termOf _ hl C x4) (fun E1 h1 z => AX.one (by unfold aHead; rw [if_pos (okI_t hj (by decide)), if_pos (okI_t hka (by decide))]; rw [if_neg (by rw [okI_f z.2.1]; decide)]) ⟨z.1, z.2.2⟩) lkX6_termOf mlX6_69 lmX6_termOf lpX6_termOf ⟨Nat.le_of_ble_eq_true rfl, Nat.le_of_ble_eq_true rfl⟩ ⟨Nat.le_of_ble_eq_true rfl, Nat.le_of_ble_eq_true rfl⟩ rfl C.2.1 (Nat.le_of_ble_eq_true rfl) (dk rfl) ?_
  rintro _ h1 ⟨⟨kb, hkb, rfl, rfl⟩, eh⟩
  obtain rfl := eh.symm
  iterate 3 refine fst1_ok X (dk rfl) rfl ?_
  refine callVX_ok (ci := 8) (T := TX6) (N := 14) (av := [.int x5]) (r := []) X E ht hlk (s6_termOf _ hl C x5) (fun E1 h1 z => AX.one (by unfold aHead; rw [if_pos (okI_t hj (by decide)), if_pos (okI_t hka (by decide)), if_pos (okI_t hkb (by decide))]; rw [if_neg (by rw [okI_f z.2.1]; decide)]) ⟨z.1, z.2.2⟩) lkX6_termOf mlX6_69 lmX6_termOf lpX6_termOf ⟨Nat.le_of_ble_eq_true rfl, Nat.le_of_ble_eq_true rfl⟩ ⟨Nat.le_of_ble_eq_true rfl, Nat.le_of_ble_eq_true rfl⟩ rfl C.2.1 (Nat.le_of_ble_eq_true rfl) (dk rfl) ?_
  rintro _ h1 ⟨⟨kg, hkg, rfl, rfl⟩, eh⟩
  obtain rfl := eh.symm
  obtain ⟨nj, sj, ej, tj, wj, lj⟩ := H.slot O hj
  obtain ⟨nka, ska, eka, tka, wka, lka⟩ := H.slot O hka
  obtain ⟨nkb, skb, ekb, tkb, wkb, lkb⟩ := H.slot O hkb
  obtain ⟨nkg, skg, ekg, tkg, wkg, lkg⟩ := H.slot O hkg
  iterate 2 refine fst1_ok X (dk rfl) rfl ?_
  refine br_ok X (dk rfl) rfl (show ((31 : Nat) : Int) + 9 = ((40 : Nat) : Int) from rfl) (fun c1 => ?_) (fun c1 => ?_)
  · exact throwS_ok X E hl ht hlk xwX6_88 (List.mem_of_getElem? (i := 7) rfl) (dk rfl) (dk rfl) (dk rfl) (dk rfl) (dk rfl) ⟨Nat.le_of_ble_eq_true rfl, Nat.le_of_ble_eq_true rfl⟩ ⟨Nat.le_of_ble_eq_true rfl, Nat.le_of_ble_eq_true rfl⟩ (AX.two (by unfold aHead; rw [if_pos (okI_t hj (by decide)), if_pos (okI_t hka (by decide)), if_pos (okI_t hkb (by decide)), if_pos (okI_t hkg (by decide)), if_neg (by rw [okI_f (fun z => inN_pos z (by decide) c1)]; decide)]) ⟨rfl, rfl⟩)
  · iterate 2 refine fst1_ok X (dk rfl) rfl ?_
    refine br_ok X (dk rfl) rfl (show ((37 : Nat) : Int) + 13 = ((50 : Nat) : Int) from rfl) (fun c2 => ?_) (fun c2 => ?_)
    · obtain ⟨i, hi, rfl⟩ := inN_of (N := 8) (by decide) c1 (Int32.not_le.mpr (by rw [← nI_8']; exact c2))
      iterate 5 refine fst1_ok X (dk rfl) rfl ?_
      have el : (Int8.ofInt 10).toInt32 + nI i = nI (i + 10) := by rw [nI_10, nI_add, Nat.add_comm]
      rw [el]
      refine callSR_ok (av := [vI (i + 10)]) (r := []) X E (s6_partsOf _ (x := i + 10) (by omega)) lkX6_partsOf mlX6_91 lsX6_partsOf ⟨Nat.le_of_ble_eq_true rfl, Nat.le_of_ble_eq_true rfl⟩ ⟨Nat.le_of_ble_eq_true rfl, Nat.le_of_ble_eq_true rfl⟩ (Nat.le_of_ble_eq_true rfl) (dk rfl) ?_
      rintro _ rfl
      iterate 2 refine fst1_ok X (dk rfl) rfl ?_
      refine getf_ok X flX6_24 (dk rfl) C.2.1 rfl ?_
      refine callVT_ok (ci := 7) (T := TX5) (N := 3) (av := []) (r := []) X E (s5_empty _ Y C.1 (i := 30) (by omega)) lkX5_empty mlX6_94 lmX5_empty lpX5_empty ⟨Nat.le_of_ble_eq_true rfl, Nat.le_of_ble_eq_true rfl⟩ ⟨Nat.le_of_ble_eq_true rfl, Nat.le_of_ble_eq_true rfl⟩ rfl (C.1 30 (by omega)).2.1 (Nat.le_of_ble_eq_true rfl) (dk rfl) (fun h2 S2 f2 => ?_)
      have C2 := C.tm Y S2 f2
      refine fst1_ok X (dk rfl) rfl ?_
      refine getf_ok X flX6_24 (dk rfl) C2.2.1 rfl ?_
      refine fst1_ok X (dk rfl) rfl ?_
      refine callVT_ok (ci := 7) (T := TX5) (N := 3) (av := [vI (i + 10)]) (r := []) X E (s5_add h2 Y S2 (i := 30) (by omega) (nI (i + 10))) lkX5_add mlX6_97 lmX5_add lpX5_add ⟨Nat.le_of_ble_eq_true rfl, Nat.le_of_ble_eq_true rfl⟩ ⟨Nat.le_of_ble_eq_true rfl, Nat.le_of_ble_eq_true rfl⟩ rfl (S2 30 (by omega)).2.1 (Nat.le_of_ble_eq_true rfl) (dk rfl) (fun h3 S3 f3 => ?_)
      have e3 : upF (upF F 30 ([], false)) 30 (addC (rmI 30) (upF F 30 ([], false) 30) (nI (i + 10))) = upF F 30 (addR 16 ([], false) (([i + 10] : List Nat).map nI)) := by
        rw [upF_up, upF_self]
        rfl
      rw [e3] at S3
      have C3 := C2.tm Y S3 f3
      have F3 := (f2.trans f3)
      have W0 := Wnt.head (x := i + 10) (Or.inr ⟨by omega, by omega⟩)
      have hp : pF (i + 10) = 0 ∨ pF (i + 10) = 1 ∨ pF (i + 10) = 2 ∨ pF (i + 10) = 3 := by have := pF_le3 (x := i + 10) (by omega); omega
      rcases hp with hp | hp | hp | hp
      · rw [hp]
        rw [hp] at W0
        refine fst1_ok X (dk rfl) rfl ?_
        refine br_ok X (dk rfl) rfl (show ((81 : Nat) : Int) + 12 = ((93 : Nat) : Int) from rfl) (fun _ => ?_) (fun q => absurd (by decide) q)
        iterate 2 refine fst1_ok X (dk rfl) rfl ?_
        refine br_ok X (dk rfl) rfl (show ((96 : Nat) : Int) + 12 = ((108 : Nat) : Int) from rfl) (fun _ => ?_) (fun q => absurd (by decide) q)
        iterate 2 refine fst1_ok X (dk rfl) rfl ?_
        refine br_ok X (dk rfl) rfl (show ((111 : Nat) : Int) + 12 = ((123 : Nat) : Int) from rfl) (fun _ => ?_) (fun q => absurd (by decide) q)
        iterate 2 refine fst1_ok X (dk rfl) rfl ?_
        refine callV_ok (ci := 8) (T := TX6) (N := 14) (av := [.ref (B j)]) (r := []) X E (s6_putSpareInto h3 Y C3 (j := j) hj (zs := _) (upF_self _ _ _)) lkX6_putSpareInto mlX6_104 lmX6_putSpareInto lpX6_putSpareInto ⟨Nat.le_of_ble_eq_true rfl, Nat.le_of_ble_eq_true rfl⟩ ⟨Nat.le_of_ble_eq_true rfl, Nat.le_of_ble_eq_true rfl⟩ rfl C3.2.1 (Nat.le_of_ble_eq_true rfl) (dk rfl) ?_
        intro v h9 G
        have Gf := gvP.ap G (F3.frC C.1) (upF_fs H (i := 30) (by omega) _) O hj ((W0).tw)
        have ez : (i + 10) :: (([nka, nkb, nkg] : List (List Nat)).take (pF (i + 10))).flatten = [i + 10] := by rw [hp]; simp
        have e : aHead (nI j) (nI i) (nI ka) (nI kb) (nI kg) st = giveS j ([i + 10]) (nI ([i + 10]).length) st := by
          unfold aHead
          rw [if_pos (okI_t hj (by decide)), if_pos (okI_t hka (by decide)), if_pos (okI_t hkb (by decide)), if_pos (okI_t hkg (by decide)), if_pos (okI_t hi (by decide)), xI_n (by omega), xI_n (by omega), xI_n (by omega), xI_n (by omega), xI_n (by omega), getD_of ska, getD_of skb, getD_of skg, ez]
        rw [← e] at Gf
        obtain ⟨g1, rfl, g3⟩ := Gf
        refine WRX.ret ?_
        exact reti_ok X hr hlk rfl (dk rfl) (⟨g1, rfl, g3⟩) (Nat.le_of_ble_eq_true rfl) (Nat.le_of_ble_eq_true rfl)
      · rw [hp]
        rw [hp] at W0
        refine fst1_ok X (dk rfl) rfl ?_
        refine br_ok X (dk rfl) rfl (show ((81 : Nat) : Int) + 12 = ((93 : Nat) : Int) from rfl) (fun q => absurd q (by decide)) (fun _ => ?_)
        refine fst1_ok X (dk rfl) rfl ?_
        refine getf_ok X flX6_24 (dk rfl) C3.2.1 rfl ?_
        refine fst1_ok X (dk rfl) rfl ?_
        have t3ka : upF F 30 (addR 16 ([], false) (([i + 10] : List Nat).map nI)) ka = (nka.map nI, false) := by rw [upF_ne _ _ (by omega)]; exact eka
        refine callVT_ok (ci := 7) (T := TX5) (N := 3) (av := [.ref (B ka)]) (r := []) X E (s5_addTerm h3 Y S3 (i := 30) (by omega) (j := ka) (by omega) (by omega)) lkX5_addTerm mlX6_100 lmX5_addTerm lpX5_addTerm ⟨Nat.le_of_ble_eq_true rfl, Nat.le_of_ble_eq_true rfl⟩ ⟨Nat.le_of_ble_eq_true rfl, Nat.le_of_ble_eq_true rfl⟩ rfl (S3 30 (by omega)).2.1 (Nat.le_of_ble_eq_true rfl) (dk rfl) (fun h4 S4 f4 => ?_)
        rw [t3ka, upF_self, upF_up, addT_rows, show rmI 30 = 16 from rfl, addR_app, ← List.map_append] at S4
        have C4 := C3.tm Y S4 f4
        have F4 := F3.trans f4
        iterate 2 refine fst1_ok X (dk rfl) rfl ?_
        refine br_ok X (dk rfl) rfl (show ((96 : Nat) : Int) + 12 = ((108 : Nat) : Int) from rfl) (fun _ => ?_) (fun q => absurd (by decide) q)
        iterate 2 refine fst1_ok X (dk rfl) rfl ?_
        refine br_ok X (dk rfl) rfl (show ((111 : Nat) : Int) + 12 = ((123 : Nat) : Int) from rfl) (fun _ => ?_) (fun q => absurd (by decide) q)
        iterate 2 refine fst1_ok X (dk rfl) rfl ?_
        refine callV_ok (ci := 8) (T := TX6) (N := 14) (av := [.ref (B j)]) (r := []) X E (s6_putSpareInto h4 Y C4 (j := j) hj (zs := _) (upF_self _ _ _)) lkX6_putSpareInto mlX6_104 lmX6_putSpareInto lpX6_putSpareInto ⟨Nat.le_of_ble_eq_true rfl, Nat.le_of_ble_eq_true rfl⟩ ⟨Nat.le_of_ble_eq_true rfl, Nat.le_of_ble_eq_true rfl⟩ rfl C4.2.1 (Nat.le_of_ble_eq_true rfl) (dk rfl) ?_
        intro v h9 G
        have Gf := gvP.ap G (F4.frC C.1) (upF_fs H (i := 30) (by omega) _) O hj (((W0).more wka).tw)
        have ez : (i + 10) :: (([nka, nkb, nkg] : List (List Nat)).take (pF (i + 10))).flatten = [i + 10] ++ nka := by rw [hp]; simp
        have e : aHead (nI j) (nI i) (nI ka) (nI kb) (nI kg) st = giveS j ([i + 10] ++ nka) (nI ([i + 10] ++ nka).length) st := by
          unfold aHead
          rw [if_pos (okI_t hj (by decide)), if_pos (okI_t hka (by decide)), if_pos (okI_t hkb (by decide)), if_pos (okI_t hkg (by decide)), if_pos (okI_t hi (by decide)), xI_n (by omega), xI_n (by omega), xI_n (by omega), xI_n (by omega), xI_n (by omega), getD_of ska, getD_of skb, getD_of skg, ez]
        rw [← e] at Gf
        obtain ⟨g1, rfl, g3⟩ := Gf
        refine WRX.ret ?_
        exact reti_ok X hr hlk rfl (dk rfl) (⟨g1, rfl, g3⟩) (Nat.le_of_ble_eq_true rfl) (Nat.le_of_ble_eq_true rfl)
      · rw [hp]
        rw [hp] at W0
        refine fst1_ok X (dk rfl) rfl ?_
        refine br_ok X (dk rfl) rfl (show ((81 : Nat) : Int) + 12 = ((93 : Nat) : Int) from rfl) (fun q => absurd q (by decide)) (fun _ => ?_)
        refine fst1_ok X (dk rfl) rfl ?_
        refine getf_ok X flX6_24 (dk rfl) C3.2.1 rfl ?_
        refine fst1_ok X (dk rfl) rfl ?_
        have t3ka : upF F 30 (addR 16 ([], false) (([i + 10] : List Nat).map nI)) ka = (nka.map nI, false) := by rw [upF_ne _ _ (by omega)]; exact eka
        refine callVT_ok (ci := 7) (T := TX5) (N := 3) (av := [.ref (B ka)]) (r := []) X E (s5_addTerm h3 Y S3 (i := 30) (by omega) (j := ka) (by omega) (by omega)) lkX5_addTerm mlX6_100 lmX5_addTerm lpX5_addTerm ⟨Nat.le_of_ble_eq_true rfl, Nat.le_of_ble_eq_true rfl⟩ ⟨Nat.le_of_ble_eq_true rfl, Nat.le_of_ble_eq_true rfl⟩ rfl (S3 30 (by omega)).2.1 (Nat.le_of_ble_eq_true rfl) (dk rfl) (fun h4 S4 f4 => ?_)
        rw [t3ka, upF_self, upF_up, addT_rows, show rmI 30 = 16 from rfl, addR_app, ← List.map_append] at S4
        have C4 := C3.tm Y S4 f4
        have F4 := F3.trans f4
        iterate 2 refine fst1_ok X (dk rfl) rfl ?_
        refine br_ok X (dk rfl) rfl (show ((96 : Nat) : Int) + 12 = ((108 : Nat) : Int) from rfl) (fun q => absurd q (by decide)) (fun _ => ?_)
        refine fst1_ok X (dk rfl) rfl ?_
        refine getf_ok X flX6_24 (dk rfl) C4.2.1 rfl ?_
        refine fst1_ok X (dk rfl) rfl ?_
        have t4kb : upF F 30 (addR 16 ([], false) (([i + 10] ++ nka : List Nat).map nI)) kb = (nkb.map nI, false) := by rw [upF_ne _ _ (by omega)]; exact ekb
        refine callVT_ok (ci := 7) (T := TX5) (N := 3) (av := [.ref (B kb)]) (r := []) X E (s5_addTerm h4 Y S4 (i := 30) (by omega) (j := kb) (by omega) (by omega)) lkX5_addTerm mlX6_100 lmX5_addTerm lpX5_addTerm ⟨Nat.le_of_ble_eq_true rfl, Nat.le_of_ble_eq_true rfl⟩ ⟨Nat.le_of_ble_eq_true rfl, Nat.le_of_ble_eq_true rfl⟩ rfl (S4 30 (by omega)).2.1 (Nat.le_of_ble_eq_true rfl) (dk rfl) (fun h5 S5 f5 => ?_)
        rw [t4kb, upF_self, upF_up, addT_rows, show rmI 30 = 16 from rfl, addR_app, ← List.map_append] at S5
        have C5 := C4.tm Y S5 f5
        have F5 := F4.trans f5
        iterate 2 refine fst1_ok X (dk rfl) rfl ?_
        refine br_ok X (dk rfl) rfl (show ((111 : Nat) : Int) + 12 = ((123 : Nat) : Int) from rfl) (fun _ => ?_) (fun q => absurd (by decide) q)
        iterate 2 refine fst1_ok X (dk rfl) rfl ?_
        refine callV_ok (ci := 8) (T := TX6) (N := 14) (av := [.ref (B j)]) (r := []) X E (s6_putSpareInto h5 Y C5 (j := j) hj (zs := _) (upF_self _ _ _)) lkX6_putSpareInto mlX6_104 lmX6_putSpareInto lpX6_putSpareInto ⟨Nat.le_of_ble_eq_true rfl, Nat.le_of_ble_eq_true rfl⟩ ⟨Nat.le_of_ble_eq_true rfl, Nat.le_of_ble_eq_true rfl⟩ rfl C5.2.1 (Nat.le_of_ble_eq_true rfl) (dk rfl) ?_
        intro v h9 G
        have Gf := gvP.ap G (F5.frC C.1) (upF_fs H (i := 30) (by omega) _) O hj ((((W0).more wka).more wkb).tw)
        have ez : (i + 10) :: (([nka, nkb, nkg] : List (List Nat)).take (pF (i + 10))).flatten = ([i + 10] ++ nka) ++ nkb := by rw [hp]; simp
        have e : aHead (nI j) (nI i) (nI ka) (nI kb) (nI kg) st = giveS j (([i + 10] ++ nka) ++ nkb) (nI (([i + 10] ++ nka) ++ nkb).length) st := by
          unfold aHead
          rw [if_pos (okI_t hj (by decide)), if_pos (okI_t hka (by decide)), if_pos (okI_t hkb (by decide)), if_pos (okI_t hkg (by decide)), if_pos (okI_t hi (by decide)), xI_n (by omega), xI_n (by omega), xI_n (by omega), xI_n (by omega), xI_n (by omega), getD_of ska, getD_of skb, getD_of skg, ez]
        rw [← e] at Gf
        obtain ⟨g1, rfl, g3⟩ := Gf
        refine WRX.ret ?_
        exact reti_ok X hr hlk rfl (dk rfl) (⟨g1, rfl, g3⟩) (Nat.le_of_ble_eq_true rfl) (Nat.le_of_ble_eq_true rfl)
      · rw [hp]
        rw [hp] at W0
        refine fst1_ok X (dk rfl) rfl ?_
        refine br_ok X (dk rfl) rfl (show ((81 : Nat) : Int) + 12 = ((93 : Nat) : Int) from rfl) (fun q => absurd q (by decide)) (fun _ => ?_)
        refine fst1_ok X (dk rfl) rfl ?_
        refine getf_ok X flX6_24 (dk rfl) C3.2.1 rfl ?_
        refine fst1_ok X (dk rfl) rfl ?_
        have t3ka : upF F 30 (addR 16 ([], false) (([i + 10] : List Nat).map nI)) ka = (nka.map nI, false) := by rw [upF_ne _ _ (by omega)]; exact eka
        refine callVT_ok (ci := 7) (T := TX5) (N := 3) (av := [.ref (B ka)]) (r := []) X E (s5_addTerm h3 Y S3 (i := 30) (by omega) (j := ka) (by omega) (by omega)) lkX5_addTerm mlX6_100 lmX5_addTerm lpX5_addTerm ⟨Nat.le_of_ble_eq_true rfl, Nat.le_of_ble_eq_true rfl⟩ ⟨Nat.le_of_ble_eq_true rfl, Nat.le_of_ble_eq_true rfl⟩ rfl (S3 30 (by omega)).2.1 (Nat.le_of_ble_eq_true rfl) (dk rfl) (fun h4 S4 f4 => ?_)
        rw [t3ka, upF_self, upF_up, addT_rows, show rmI 30 = 16 from rfl, addR_app, ← List.map_append] at S4
        have C4 := C3.tm Y S4 f4
        have F4 := F3.trans f4
        iterate 2 refine fst1_ok X (dk rfl) rfl ?_
        refine br_ok X (dk rfl) rfl (show ((96 : Nat) : Int) + 12 = ((108 : Nat) : Int) from rfl) (fun q => absurd q (by decide)) (fun _ => ?_)
        refine fst1_ok X (dk rfl) rfl ?_
        refine getf_ok X flX6_24 (dk rfl) C4.2.1 rfl ?_
        refine fst1_ok X (dk rfl) rfl ?_
        have t4kb : upF F 30 (addR 16 ([], false) (([i + 10] ++ nka : List Nat).map nI)) kb = (nkb.map nI, false) := by rw [upF_ne _ _ (by omega)]; exact ekb
        refine callVT_ok (ci := 7) (T := TX5) (N := 3) (av := [.ref (B kb)]) (r := []) X E (s5_addTerm h4 Y S4 (i := 30) (by omega) (j := kb) (by omega) (by omega)) lkX5_addTerm mlX6_100 lmX5_addTerm lpX5_addTerm ⟨Nat.le_of_ble_eq_true rfl, Nat.le_of_ble_eq_true rfl⟩ ⟨Nat.le_of_ble_eq_true rfl, Nat.le_of_ble_eq_true rfl⟩ rfl (S4 30 (by omega)).2.1 (Nat.le_of_ble_eq_true rfl) (dk rfl) (fun h5 S5 f5 => ?_)
        rw [t4kb, upF_self, upF_up, addT_rows, show rmI 30 = 16 from rfl, addR_app, ← List.map_append] at S5
        have C5 := C4.tm Y S5 f5
        have F5 := F4.trans f5
        iterate 2 refine fst1_ok X (dk rfl) rfl ?_
        refine br_ok X (dk rfl) rfl (show ((111 : Nat) : Int) + 12 = ((123 : Nat) : Int) from rfl) (fun q => absurd q (by decide)) (fun _ => ?_)
        refine fst1_ok X (dk rfl) rfl ?_
        refine getf_ok X flX6_24 (dk rfl) C5.2.1 rfl ?_
        refine fst1_ok X (dk rfl) rfl ?_
        have t5kg : upF F 30 (addR 16 ([], false) ((([i + 10] ++ nka) ++ nkb : List Nat).map nI)) kg = (nkg.map nI, false) := by rw [upF_ne _ _ (by omega)]; exact ekg
        refine callVT_ok (ci := 7) (T := TX5) (N := 3) (av := [.ref (B kg)]) (r := []) X E (s5_addTerm h5 Y S5 (i := 30) (by omega) (j := kg) (by omega) (by omega)) lkX5_addTerm mlX6_100 lmX5_addTerm lpX5_addTerm ⟨Nat.le_of_ble_eq_true rfl, Nat.le_of_ble_eq_true rfl⟩ ⟨Nat.le_of_ble_eq_true rfl, Nat.le_of_ble_eq_true rfl⟩ rfl (S5 30 (by omega)).2.1 (Nat.le_of_ble_eq_true rfl) (dk rfl) (fun h6 S6 f6 => ?_)
        rw [t5kg, upF_self, upF_up, addT_rows, show rmI 30 = 16 from rfl, addR_app, ← List.map_append] at S6
        have C6 := C5.tm Y S6 f6
        have F6 := F5.trans f6
        iterate 2 refine fst1_ok X (dk rfl) rfl ?_
        refine callV_ok (ci := 8) (T := TX6) (N := 14) (av := [.ref (B j)]) (r := []) X E (s6_putSpareInto h6 Y C6 (j := j) hj (zs := _) (upF_self _ _ _)) lkX6_putSpareInto mlX6_104 lmX6_putSpareInto lpX6_putSpareInto ⟨Nat.le_of_ble_eq_true rfl, Nat.le_of_ble_eq_true rfl⟩ ⟨Nat.le_of_ble_eq_true rfl, Nat.le_of_ble_eq_true rfl⟩ rfl C6.2.1 (Nat.le_of_ble_eq_true rfl) (dk rfl) ?_
        intro v h9 G
        have Gf := gvP.ap G (F6.frC C.1) (upF_fs H (i := 30) (by omega) _) O hj (((((W0).more wka).more wkb).more wkg).tw)
        have ez : (i + 10) :: (([nka, nkb, nkg] : List (List Nat)).take (pF (i + 10))).flatten = (([i + 10] ++ nka) ++ nkb) ++ nkg := by rw [hp]; simp
        have e : aHead (nI j) (nI i) (nI ka) (nI kb) (nI kg) st = giveS j ((([i + 10] ++ nka) ++ nkb) ++ nkg) (nI ((([i + 10] ++ nka) ++ nkb) ++ nkg).length) st := by
          unfold aHead
          rw [if_pos (okI_t hj (by decide)), if_pos (okI_t hka (by decide)), if_pos (okI_t hkb (by decide)), if_pos (okI_t hkg (by decide)), if_pos (okI_t hi (by decide)), xI_n (by omega), xI_n (by omega), xI_n (by omega), xI_n (by omega), xI_n (by omega), getD_of ska, getD_of skb, getD_of skg, ez]
        rw [← e] at Gf
        obtain ⟨g1, rfl, g3⟩ := Gf
        refine WRX.ret ?_
        exact reti_ok X hr hlk rfl (dk rfl) (⟨g1, rfl, g3⟩) (Nat.le_of_ble_eq_true rfl) (Nat.le_of_ble_eq_true rfl)
    · exact throwS_ok X E hl ht hlk xwX6_88 (List.mem_of_getElem? (i := 7) rfl) (dk rfl) (dk rfl) (dk rfl) (dk rfl) (dk rfl) ⟨Nat.le_of_ble_eq_true rfl, Nat.le_of_ble_eq_true rfl⟩ ⟨Nat.le_of_ble_eq_true rfl, Nat.le_of_ble_eq_true rfl⟩ (AX.two (by unfold aHead; rw [if_pos (okI_t hj (by decide)), if_pos (okI_t hka (by decide)), if_pos (okI_t hkb (by decide)), if_pos (okI_t hkg (by decide)), if_neg (by rw [okI_f (fun z => c2 (by rw [nI_8']; exact inN_lt z (by decide)))]; decide)]) ⟨rfl, rfl⟩)
set_option maxHeartbeats 32000000 in
theorem s6_put (h : AH) (hl : la.stackTraces = false) (Y : LYO B Q) {st : ST} (C0 : StC B Q P ox kn h st) (x1 x2 x3 : Int32) : CTX la D cA B0 pa yX6_put cX6_put 8 (some .int) (rmD 7 3 18) [.ref ox, .int x1, .int x2, .int x3] h (AP B Q P ox kn (aPut x1 x2 x3 st) h) (AX (aPut x1 x2 x3 st) st h) := by
  refine CTX_of (by decide +kernel) (Nat.le_of_ble_eq_true rfl) ?_
  intro p e s m args below meth c X E hr hlk hnm ht
  have dk : ∀ {pc : Nat} {q : Instr × Nat}, lkd DX6_put pc = some q → decode cX6_put pc = .ok q := lkd_ok DX6_put_ok
  obtain ⟨F, C, H, O⟩ := id C0
  iterate 2 refine fst1_ok X (dk rfl) rfl ?_
  refine callVX_ok (ci := 8) (T := TX6) (N := 14) (av := [.int x1]) (r := []) X E ht hlk (s6_termOf h hl C x1) (fun E1 h1 z => AX.one (by unfold aPut; rw [if_neg (by rw [okI_f z.2.1]; decide)]) ⟨z.1, z.2.2⟩) lkX6_termOf mlX6_69 lmX6_termOf lpX6_termOf ⟨Nat.le_of_ble_eq_true rfl, Nat.le_of_ble_eq_true rfl⟩ ⟨Nat.le_of_ble_eq_true rfl, Nat.le_of_ble_eq_true rfl⟩ rfl C.2.1 (Nat.le_of_ble_eq_true rfl) (dk rfl) ?_
  rintro _ h1 ⟨⟨j, hj, rfl, rfl⟩, eh⟩
  obtain rfl := eh.symm
  iterate 3 refine fst1_ok X (dk rfl) rfl ?_
  refine callVX_ok (ci := 8) (T := TX6) (N := 14) (av := [.int x3]) (r := []) X E ht hlk (s6_termOf _ hl C x3) (fun E1 h1 z => AX.one (by unfold aPut; rw [if_pos (okI_t hj (by decide))]; rw [if_neg (by rw [okI_f z.2.1]; decide)]) ⟨z.1, z.2.2⟩) lkX6_termOf mlX6_69 lmX6_termOf lpX6_termOf ⟨Nat.le_of_ble_eq_true rfl, Nat.le_of_ble_eq_true rfl⟩ ⟨Nat.le_of_ble_eq_true rfl, Nat.le_of_ble_eq_true rfl⟩ rfl C.2.1 (Nat.le_of_ble_eq_true rfl) (dk rfl) ?_
  rintro _ h1 ⟨⟨i, hi, rfl, rfl⟩, eh⟩
  obtain rfl := eh.symm
  iterate 2 refine fst1_ok X (dk rfl) rfl ?_
  refine callSX_ok (av := [.int x2]) (r := []) X E ht hlk (s6_needName _ hl x2) (fun E1 h1 z => AX.two (by unfold aPut; rw [if_pos (okI_t hj (by decide)), if_pos (okI_t hi (by decide))]; rw [if_neg (by rw [okI_f z.2.1]; decide)]) ⟨z.1, z.2.2⟩) lkX6_needName mlX6_73 lsX6_needName ⟨Nat.le_of_ble_eq_true rfl, Nat.le_of_ble_eq_true rfl⟩ ⟨Nat.le_of_ble_eq_true rfl, Nat.le_of_ble_eq_true rfl⟩ (Nat.le_of_ble_eq_true rfl) (dk rfl) ?_
  rintro _ h1 ⟨⟨k, hk, rfl, rfl⟩, eh⟩
  obtain rfl := eh.symm
  obtain ⟨nj, sj, ej, tj, wj, lj⟩ := H.slot O hj
  obtain ⟨ni, si, ei, ti, wi, li⟩ := H.slot O hi
  iterate 2 refine fst1_ok X (dk rfl) rfl ?_
  refine callVR_ok (ci := 7) (T := TX5) (N := 3) (av := [vI k]) (r := []) X E (s5_placesOf _ C.1 (i := j) (by omega) tj (x := k) (by omega)) lkX5_placesOf mlX6_129 lmX5_placesOf lpX5_placesOf ⟨Nat.le_of_ble_eq_true rfl, Nat.le_of_ble_eq_true rfl⟩ ⟨Nat.le_of_ble_eq_true rfl, Nat.le_of_ble_eq_true rfl⟩ rfl ⟨_, (C.1 j (by omega)).2.1⟩ (Nat.le_of_ble_eq_true rfl) (dk rfl) ?_
  rintro _ rfl
  iterate 2 refine fst1_ok X (dk rfl) rfl ?_
  refine getf_ok X flX6_24 (dk rfl) C.2.1 rfl ?_
  refine callVT_ok (ci := 7) (T := TX5) (N := 3) (av := []) (r := []) X E (s5_empty _ Y C.1 (i := 30) (by omega)) lkX5_empty mlX6_94 lmX5_empty lpX5_empty ⟨Nat.le_of_ble_eq_true rfl, Nat.le_of_ble_eq_true rfl⟩ ⟨Nat.le_of_ble_eq_true rfl, Nat.le_of_ble_eq_true rfl⟩ rfl (C.1 30 (by omega)).2.1 (Nat.le_of_ble_eq_true rfl) (dk rfl) (fun h2 S2 f2 => ?_)
  have aor : AO (nm8.set k ni) := AO_set nm8_AO ⟨wi, li⟩ k
  have ewh : aPut (nI j) (nI k) (nI i) st = giveS j (usedL (nm8.set k ni) nj) (nI (oftenN nj k)) st := by
    unfold aPut
    rw [if_pos (okI_t hj (by decide)), if_pos (okI_t hi (by decide)), if_pos (okI_t hk (by decide)), xI_n (by omega), xI_n (by omega), xI_n (by omega), getD_of sj, getD_of si]
  have loop : ∀ (d q : Nat) (t : TC) (h1 : AH), d = nj.length - q → q ≤ nj.length → TS B Q h1 (upF F 30 t) → FrT B Q h h1 → addR 16 t ((usedL (nm8.set k ni) (nj.drop q)).map nI) = addR 16 ([], false) ((usedL (nm8.set k ni) nj).map nI) → ∀ l : List (Nat × Value), lsel l [7, 6, 5, 4, 2, 0] = [(7, vI q), (6, vI (oftenN nj k)), (5, .ref (B i)), (4, .ref (B j)), (2, vI k), (0, .ref ox)] → WRX p la e (rmD 7 3 18) s m args below meth c D cA B0 8 (AP B Q P ox kn (aPut (nI j) (nI k) (nI i) st) h) (AX (aPut (nI j) (nI k) (nI i) st) st h) 36 l [] h1 (0 + 1 + 1 + 1) (0 + 6 + 6 + 6) := by
    intro d
    induction d with
    | zero =>
      intro q t h1 hd hq S1 f1 eU l hl
      have hq2 : q = nj.length := by omega
      rw [hq2, List.drop_length] at eU
      have e2 : t = addR 16 ([], false) ((usedL (nm8.set k ni) nj).map nI) := eU
      have C1 := C.tm Y S1 f1
      refine WS.sel [7, 6, 5, 4, 2, 0] hl ?_
      iterate 2 refine fst1_ok X (dk rfl) rfl ?_
      refine callVR_ok (ci := 7) (T := TX5) (N := 3) (av := []) (r := [vI q]) X E (s5_length h1 S1 (i := j) (by omega)) lkX5_length mlX6_76 lmX5_length lpX5_length ⟨Nat.le_of_ble_eq_true rfl, Nat.le_of_ble_eq_true rfl⟩ ⟨Nat.le_of_ble_eq_true rfl, Nat.le_of_ble_eq_true rfl⟩ rfl ⟨_, (S1 j (by omega)).2.1⟩ (Nat.le_of_ble_eq_true rfl) (dk rfl) ?_
      rintro _ rfl
      rw [upF_ne _ _ (by omega), tj.len]
      refine br_ok X (dk rfl) rfl (show ((43 : Nat) : Int) + 46 = ((89 : Nat) : Int) from rfl) (fun _ => ?_) (fun q => absurd (by rw [hq2]; exact Int32.le_refl _) q)
      iterate 2 refine fst1_ok X (dk rfl) rfl ?_
      refine callV_ok (ci := 8) (T := TX6) (N := 14) (av := [.ref (B j)]) (r := []) X E (s6_putSpareInto h1 Y C1 (j := j) hj (zs := usedL (nm8.set k ni) nj) (by rw [upF_self]; exact e2)) lkX6_putSpareInto mlX6_104 lmX6_putSpareInto lpX6_putSpareInto ⟨Nat.le_of_ble_eq_true rfl, Nat.le_of_ble_eq_true rfl⟩ ⟨Nat.le_of_ble_eq_true rfl, Nat.le_of_ble_eq_true rfl⟩ rfl C1.2.1 (Nat.le_of_ble_eq_true rfl) (dk rfl) ?_
      rintro v h3 ⟨gf, ⟨g1, rfl, g3⟩ | ⟨g1, rfl, g3⟩⟩
      · refine fst1_ok X (dk rfl) rfl ?_
        refine br_ok X (dk rfl) rfl (show ((97 : Nat) : Int) + 8 = ((105 : Nat) : Int) from rfl) (fun q => absurd rfl q) (fun _ => ?_)
        refine fst1_ok X (dk rfl) rfl ?_
        refine br_ok X (dk rfl) rfl (show ((102 : Nat) : Int) + 5 = ((107 : Nat) : Int) from rfl) (fun _ => ?_) (fun q => absurd trivial q)
        have ee : aPut (nI j) (nI k) (nI i) st = noS st := by rw [ewh]; exact if_pos g1
        rw [ee]
        refine WRX.ret ?_
        exact reti_ok X hr hlk rfl (dk rfl) (⟨rfl, rfl, ⟨_, g3, (upF_fs H (by omega) _).cnt _ _, O.cnt _ _⟩, (f1.frC C.1).trans gf⟩) (Nat.le_of_ble_eq_true rfl) (Nat.le_of_ble_eq_true rfl)
      · refine fst1_ok X (dk rfl) rfl ?_
        refine br_ok X (dk rfl) rfl (show ((97 : Nat) : Int) + 8 = ((105 : Nat) : Int) from rfl) (fun _ => ?_) (fun q => absurd (nI_m9 (by omega)) q)
        refine fst1_ok X (dk rfl) rfl ?_
        have ee : aPut (nI j) (nI k) (nI i) st = slS st (st.1.set j (usedL (nm8.set k ni) nj)) (nI (oftenN nj k)) := by rw [ewh]; exact if_neg (by omega)
        rw [ee]
        refine WRX.ret ?_
        exact reti_ok X hr hlk rfl (dk rfl) (⟨rfl, rfl, ⟨_, g3, (upF_fs H (i := 30) (by omega) _).set hj O.1 _ _ _, O.set ⟨TW_used aor wj, g1⟩ j _ _⟩, (f1.frC C.1).trans gf⟩) (Nat.le_of_ble_eq_true rfl) (Nat.le_of_ble_eq_true rfl)
    | succ d ih =>
      intro q t h1 hd hq S1 f1 eU l hl
      obtain ⟨y, hy⟩ : ∃ y, nj[q]? = some y := ⟨_, List.getElem?_eq_getElem (by omega)⟩
      have hok := tj.2 y (List.mem_of_getElem? hy)
      have hyx := hok.lt
      have C1 := C.tm Y S1 f1
      have tj1 : TN (upF F 30 t j) nj := by rw [upF_ne _ _ (by omega)]; exact tj
      rw [drop_cons hy, usedL_cons, List.map_append, ← addR_app, useL_nm hk hok] at eU
      refine WS.sel [7, 6, 5, 4, 2, 0] hl ?_
      iterate 2 refine fst1_ok X (dk rfl) rfl ?_
      refine callVR_ok (ci := 7) (T := TX5) (N := 3) (av := []) (r := [vI q]) X E (s5_length h1 S1 (i := j) (by omega)) lkX5_length mlX6_76 lmX5_length lpX5_length ⟨Nat.le_of_ble_eq_true rfl, Nat.le_of_ble_eq_true rfl⟩ ⟨Nat.le_of_ble_eq_true rfl, Nat.le_of_ble_eq_true rfl⟩ rfl ⟨_, (S1 j (by omega)).2.1⟩ (Nat.le_of_ble_eq_true rfl) (dk rfl) ?_
      rintro _ rfl
      rw [upF_ne _ _ (by omega), tj.len]
      refine br_ok X (dk rfl) rfl (show ((43 : Nat) : Int) + 46 = ((89 : Nat) : Int) from rfl) (fun q => absurd q (nI_ge (by omega) (by omega))) (fun _ => ?_)
      iterate 2 refine fst1_ok X (dk rfl) rfl ?_
      refine callVR_ok (ci := 7) (T := TX5) (N := 3) (av := [vI q]) (r := []) X E (s5_letterAt h1 S1 (i := j) (by omega) (nI q)) lkX5_letterAt mlX6_132 lmX5_letterAt lpX5_letterAt ⟨Nat.le_of_ble_eq_true rfl, Nat.le_of_ble_eq_true rfl⟩ ⟨Nat.le_of_ble_eq_true rfl, Nat.le_of_ble_eq_true rfl⟩ rfl ⟨_, (S1 j (by omega)).2.1⟩ (Nat.le_of_ble_eq_true rfl) (dk rfl) ?_
      rintro _ rfl
      rw [tj1.lt hy (by omega)]
      refine fst1_ok X (dk rfl) rfl ?_
      have f3 : Value.int (nI q + Int32.ofInt 1) = vI (q + 1) := congrArg Value.int (by rw [nI_1', nI_add])
      have nxt : ∀ (h2 : AH) (t2 : TC), TS B Q h2 (upF F 30 t2) → FrT B Q h1 h2 → addR 16 t2 ((usedL (nm8.set k ni) (nj.drop (q + 1))).map nI) = addR 16 ([], false) ((usedL (nm8.set k ni) nj).map nI) → ∀ l : List (Nat × Value), lsel l [7, 6, 5, 4, 2, 0] = [(7, vI q), (6, vI (oftenN nj k)), (5, .ref (B i)), (4, .ref (B j)), (2, vI k), (0, .ref ox)] → WRX p la e (rmD 7 3 18) s m args below meth c D cA B0 8 (AP B Q P ox kn (aPut (nI j) (nI k) (nI i) st) h) (AX (aPut (nI j) (nI k) (nI i) st) st h) 83 l [] h2 (0 + 1 + 1 + 1) (0 + 6 + 6 + 6) := by
        intro h2 t2 S2 f2 e2 l hl
        refine WS.sel [7, 6, 5, 4, 2, 0] hl ?_
        refine fst1_ok X (dk rfl) rfl ?_
        refine br_ok X (dk rfl) rfl (show ((86 : Nat) : Int) + (-50) = ((36 : Nat) : Int) from rfl) (fun _ => ?_) (fun q => absurd trivial q)
        refine WS.sel (l' := [(7, vI (q + 1)), (6, vI (oftenN nj k)), (5, .ref (B i)), (4, .ref (B j)), (2, vI k), (0, .ref ox)]) [7, 6, 5, 4, 2, 0] (by rw [← f3]; rfl) ?_
        exact ih (q + 1) t2 h2 (by omega) (by omega) S2 (f1.trans f2) e2 _ rfl
      by_cases hyk : y = k
      · rw [if_pos hyk] at eU
        refine br_ok X (dk rfl) rfl (show ((54 : Nat) : Int) + 15 = ((69 : Nat) : Int) from rfl) (fun q => absurd (by rw [hyk]) q) (fun _ => ?_)
        refine fst1_ok X (dk rfl) rfl ?_
        refine getf_ok X flX6_24 (dk rfl) C1.2.1 rfl ?_
        refine fst1_ok X (dk rfl) rfl ?_
        have t1i : upF F 30 t i = (ni.map nI, false) := by rw [upF_ne _ _ (by omega)]; exact ei
        refine callVT_ok (ci := 7) (T := TX5) (N := 3) (av := [.ref (B i)]) (r := []) X E (s5_addTerm h1 Y S1 (i := 30) (by omega) (j := i) (by omega) (by omega)) lkX5_addTerm mlX6_100 lmX5_addTerm lpX5_addTerm ⟨Nat.le_of_ble_eq_true rfl, Nat.le_of_ble_eq_true rfl⟩ ⟨Nat.le_of_ble_eq_true rfl, Nat.le_of_ble_eq_true rfl⟩ rfl (S1 30 (by omega)).2.1 (Nat.le_of_ble_eq_true rfl) (dk rfl) (fun h2 S2 f2 => ?_)
        rw [t1i, upF_self, upF_up, addT_rows, show rmI 30 = 16 from rfl] at S2
        refine br_ok X (dk rfl) rfl (show ((66 : Nat) : Int) + 17 = ((83 : Nat) : Int) from rfl) (fun _ => ?_) (fun q => absurd trivial q)
        exact nxt h2 _ S2 f2 eU _ rfl
      · rw [if_neg hyk] at eU
        refine br_ok X (dk rfl) rfl (show ((54 : Nat) : Int) + 15 = ((69 : Nat) : Int) from rfl) (fun _ => ?_) (fun q => absurd (fun z => hyk (nI_inj (by omega) (by omega) z)) q)
        refine fst1_ok X (dk rfl) rfl ?_
        refine getf_ok X flX6_24 (dk rfl) C1.2.1 rfl ?_
        iterate 2 refine fst1_ok X (dk rfl) rfl ?_
        refine callVR_ok (ci := 7) (T := TX5) (N := 3) (av := [vI q]) (r := [.ref (B 30)]) X E (s5_letterAt h1 S1 (i := j) (by omega) (nI q)) lkX5_letterAt mlX6_132 lmX5_letterAt lpX5_letterAt ⟨Nat.le_of_ble_eq_true rfl, Nat.le_of_ble_eq_true rfl⟩ ⟨Nat.le_of_ble_eq_true rfl, Nat.le_of_ble_eq_true rfl⟩ rfl ⟨_, (S1 j (by omega)).2.1⟩ (Nat.le_of_ble_eq_true rfl) (dk rfl) ?_
        rintro _ rfl
        rw [tj1.lt hy (by omega)]
        refine callVT_ok (ci := 7) (T := TX5) (N := 3) (av := [vI y]) (r := []) X E (s5_add h1 Y S1 (i := 30) (by omega) (nI y)) lkX5_add mlX6_97 lmX5_add lpX5_add ⟨Nat.le_of_ble_eq_true rfl, Nat.le_of_ble_eq_true rfl⟩ ⟨Nat.le_of_ble_eq_true rfl, Nat.le_of_ble_eq_true rfl⟩ rfl (S1 30 (by omega)).2.1 (Nat.le_of_ble_eq_true rfl) (dk rfl) (fun h2 S2 f2 => ?_)
        rw [upF_self, upF_up, show rmI 30 = 16 from rfl] at S2
        exact nxt h2 _ S2 f2 eU _ rfl
  iterate 2 refine fst1_ok X (dk rfl) rfl ?_
  exact loop _ 0 ([], false) h2 rfl (Nat.zero_le _) S2 f2 (by rw [List.drop_zero]) _ rfl
set_option maxHeartbeats 32000000 in
theorem s6_shift (h : AH) (hl : la.stackTraces = false) (Y : LYO B Q) {st : ST} (C0 : StC B Q P ox kn h st) (x1 x2 : Int32) : CTX la D cA B0 pa yX6_shift cX6_shift 6 (some .int) (rmD 7 2 12) [.ref ox, .int x1, .int x2] h (AP B Q P ox kn (aShift x1 x2 st) h) (AX (aShift x1 x2 st) st h) := by
  refine CTX_of (by decide +kernel) (Nat.le_of_ble_eq_true rfl) ?_
  intro p e s m args below meth c X E hr hlk hnm ht
  have dk : ∀ {pc : Nat} {q : Instr × Nat}, lkd DX6_shift pc = some q → decode cX6_shift pc = .ok q := lkd_ok DX6_shift_ok
  obtain ⟨F, C, H, O⟩ := id C0
  iterate 2 refine fst1_ok X (dk rfl) rfl ?_
  refine callVX_ok (ci := 8) (T := TX6) (N := 14) (av := [.int x1]) (r := []) X E ht hlk (s6_termOf h hl C x1) (fun E1 h1 z => AX.one (by unfold aShift; rw [if_neg (by rw [okI_f z.2.1]; decide)]) ⟨z.1, z.2.2⟩) lkX6_termOf mlX6_69 lmX6_termOf lpX6_termOf ⟨Nat.le_of_ble_eq_true rfl, Nat.le_of_ble_eq_true rfl⟩ ⟨Nat.le_of_ble_eq_true rfl, Nat.le_of_ble_eq_true rfl⟩ rfl C.2.1 (Nat.le_of_ble_eq_true rfl) (dk rfl) ?_
  rintro _ h1 ⟨⟨j, hj, rfl, rfl⟩, eh⟩
  obtain rfl := eh.symm
  obtain ⟨nj, sj, ej, tj, wj, lj⟩ := H.slot O hj
  iterate 2 refine fst1_ok X (dk rfl) rfl ?_
  refine br_ok X (dk rfl) rfl (show ((7 : Nat) : Int) + 9 = ((16 : Nat) : Int) from rfl) (fun c1 => ?_) (fun c1 => ?_)
  · exact throwS_ok X E hl ht hlk xwX6_88 (List.mem_of_getElem? (i := 0) rfl) (dk rfl) (dk rfl) (dk rfl) (dk rfl) (dk rfl) ⟨Nat.le_of_ble_eq_true rfl, Nat.le_of_ble_eq_true rfl⟩ ⟨Nat.le_of_ble_eq_true rfl, Nat.le_of_ble_eq_true rfl⟩ (AX.two (by unfold aShift; rw [if_pos (okI_t hj (by decide)), if_neg (by rw [okI_f (fun z => inN_pos z (by decide) c1)]; decide)]) ⟨rfl, rfl⟩)
  · iterate 2 refine fst1_ok X (dk rfl) rfl ?_
    refine br_ok X (dk rfl) rfl (show ((13 : Nat) : Int) + 13 = ((26 : Nat) : Int) from rfl) (fun c2 => ?_) (fun c2 => ?_)
    · obtain ⟨k, hk, rfl⟩ := inN_of (N := 8) (by decide) c1 (Int32.not_le.mpr (by rw [← nI_8']; exact c2))
      refine fst1_ok X (dk rfl) rfl ?_
      refine getf_ok X flX6_24 (dk rfl) C.2.1 rfl ?_
      refine callVT_ok (ci := 7) (T := TX5) (N := 3) (av := []) (r := []) X E (s5_empty _ Y C.1 (i := 30) (by omega)) lkX5_empty mlX6_94 lmX5_empty lpX5_empty ⟨Nat.le_of_ble_eq_true rfl, Nat.le_of_ble_eq_true rfl⟩ ⟨Nat.le_of_ble_eq_true rfl, Nat.le_of_ble_eq_true rfl⟩ rfl (C.1 30 (by omega)).2.1 (Nat.le_of_ble_eq_true rfl) (dk rfl) (fun h2 S2 f2 => ?_)
      have loop : ∀ (d q : Nat) (t : TC) (h1 : AH), d = nj.length - q → q ≤ nj.length → TS B Q h1 (upF F 30 t) → FrT B Q h h1 → addR 16 t (((nj.drop q).map (shL k)).map nI) = addR 16 ([], false) ((nj.map (shL k)).map nI) → ∀ l : List (Nat × Value), lsel l [4, 3, 2, 0] = [(4, vI q), (3, .ref (B j)), (2, vI k), (0, .ref ox)] → WRX p la e (rmD 7 2 12) s m args below meth c D cA B0 6 (AP B Q P ox kn (aShift (nI j) (nI k) st) h) (AX (aShift (nI j) (nI k) st) st h) 36 l [] h1 (0 + 1) (0 + 6) := by
        intro d
        induction d with
        | zero =>
          intro q t h1 hd hq S1 f1 eU l hl
          have hq2 : q = nj.length := by omega
          rw [hq2, List.drop_length] at eU
          have e2 : t = addR 16 ([], false) ((nj.map (shL k)).map nI) := eU
          rw [addR_short (by rw [List.length_map]; exact lj)] at e2
          rw [e2] at S1
          have C1 := C.tm Y S1 f1
          refine WS.sel [4, 3, 2, 0] hl ?_
          iterate 2 refine fst1_ok X (dk rfl) rfl ?_
          refine callVR_ok (ci := 7) (T := TX5) (N := 3) (av := []) (r := [vI q]) X E (s5_length h1 S1 (i := j) (by omega)) lkX5_length mlX6_76 lmX5_length lpX5_length ⟨Nat.le_of_ble_eq_true rfl, Nat.le_of_ble_eq_true rfl⟩ ⟨Nat.le_of_ble_eq_true rfl, Nat.le_of_ble_eq_true rfl⟩ rfl ⟨_, (S1 j (by omega)).2.1⟩ (Nat.le_of_ble_eq_true rfl) (dk rfl) ?_
          rintro _ rfl
          rw [upF_ne _ _ (by omega), tj.len]
          refine br_ok X (dk rfl) rfl (show ((42 : Nat) : Int) + 44 = ((86 : Nat) : Int) from rfl) (fun _ => ?_) (fun q => absurd (by rw [hq2]; exact Int32.le_refl _) q)
          iterate 2 refine fst1_ok X (dk rfl) rfl ?_
          refine getf_ok X flX6_24 (dk rfl) C1.2.1 rfl ?_
          have hrm : rmI j = 16 := if_pos (by omega)
          refine callVT_ok (ci := 7) (T := TX5) (N := 3) (av := [.ref (B 30)]) (r := []) X E (s5_becomeAs h1 Y S1 (i := j) (by omega) (j := 30) (by omega) (by rw [upF_self, hrm, List.length_map, List.length_map]; exact lj)) lkX5_becomeAs mlX6_108 lmX5_becomeAs lpX5_becomeAs ⟨Nat.le_of_ble_eq_true rfl, Nat.le_of_ble_eq_true rfl⟩ ⟨Nat.le_of_ble_eq_true rfl, Nat.le_of_ble_eq_true rfl⟩ rfl (S1 j (by omega)).2.1 (Nat.le_of_ble_eq_true rfl) (dk rfl) (fun h3 S3 f3 => ?_)
          rw [upF_self] at S3
          have C3 := C1.tm Y S3 f3
          have t3 : TN (upF (upF F 30 ((nj.map (shL k)).map nI, false)) j ((nj.map (shL k)).map nI, false) j) (nj.map (shL k)) := by rw [upF_self]; exact ⟨rfl, (TW.shift wj k).2⟩
          iterate 2 refine fst1_ok X (dk rfl) rfl ?_
          refine callVR_ok (ci := 7) (T := TX5) (N := 3) (av := []) (r := [.ref ox]) X E (s5_allNames h3 S3 (i := j) (by omega) t3) lkX5_allNames mlX6_140 lmX5_allNames lpX5_allNames ⟨Nat.le_of_ble_eq_true rfl, Nat.le_of_ble_eq_true rfl⟩ ⟨Nat.le_of_ble_eq_true rfl, Nat.le_of_ble_eq_true rfl⟩ rfl ⟨_, (S3 j (by omega)).2.1⟩ (Nat.le_of_ble_eq_true rfl) (dk rfl) ?_
          rintro _ rfl
          refine callS_ok (av := [vI (namesN (nj.map (shL k)))]) (r := [.ref ox]) X E (c_bitCount h3 _) lkJ6_bitCount_0f7a4 mlX6_143 lsJ6_bitCount_0f7a4 ⟨Nat.le_of_ble_eq_true rfl, Nat.le_of_ble_eq_true rfl⟩ ⟨Nat.le_of_ble_eq_true rfl, Nat.le_of_ble_eq_true rfl⟩ (Nat.le_of_ble_eq_true rfl) (dk rfl) ?_
          rintro v h4 ⟨rfl, eh⟩
          obtain rfl := eh.symm
          refine callV_ok (ci := 8) (T := TX6) (N := 14) (av := [.int (bcF (nI (namesN (nj.map (shL k)))))]) (r := []) X E (s6_did _ C3 _) lkX6_did mlX6_80 lmX6_did lpX6_did ⟨Nat.le_of_ble_eq_true rfl, Nat.le_of_ble_eq_true rfl⟩ ⟨Nat.le_of_ble_eq_true rfl, Nat.le_of_ble_eq_true rfl⟩ rfl C3.2.1 (Nat.le_of_ble_eq_true rfl) (dk rfl) ?_
          rintro _ h5 ⟨rfl, C5, f5⟩
          have e : aShift (nI j) (nI k) st = slS st (st.1.set j (nj.map (shL k))) (bcF (nI (namesN (nj.map (shL k))))) := by
            unfold aShift
            rw [if_pos (okI_t hj (by decide)), if_pos (okI_t hk (by decide)), xI_n (by omega), xI_n (by omega), getD_of sj]
          rw [e]
          refine WRX.ret ?_
          exact reti_ok X hr hlk rfl (dk rfl) (⟨rfl, rfl, ⟨_, C5, (upF_fs H (i := 30) (by omega) _).set hj O.1 _ _ _, O.set ⟨TW.shift wj k, by rw [List.length_map]; exact lj⟩ j _ _⟩, ((f1.frC C.1).trans (f3.frC S1)).trans f5⟩) (Nat.le_of_ble_eq_true rfl) (Nat.le_of_ble_eq_true rfl)
        | succ d ih =>
          intro q t h1 hd hq S1 f1 eU l hl
          obtain ⟨y, hy⟩ : ∃ y, nj[q]? = some y := ⟨_, List.getElem?_eq_getElem (by omega)⟩
          have hok := tj.2 y (List.mem_of_getElem? hy)
          have hyx := hok.lt
          have C1 := C.tm Y S1 f1
          have tj1 : TN (upF F 30 t j) nj := by rw [upF_ne _ _ (by omega)]; exact tj
          rw [drop_cons hy, List.map_cons, List.map_cons] at eU
          refine WS.sel [4, 3, 2, 0] hl ?_
          iterate 2 refine fst1_ok X (dk rfl) rfl ?_
          refine callVR_ok (ci := 7) (T := TX5) (N := 3) (av := []) (r := [vI q]) X E (s5_length h1 S1 (i := j) (by omega)) lkX5_length mlX6_76 lmX5_length lpX5_length ⟨Nat.le_of_ble_eq_true rfl, Nat.le_of_ble_eq_true rfl⟩ ⟨Nat.le_of_ble_eq_true rfl, Nat.le_of_ble_eq_true rfl⟩ rfl ⟨_, (S1 j (by omega)).2.1⟩ (Nat.le_of_ble_eq_true rfl) (dk rfl) ?_
          rintro _ rfl
          rw [upF_ne _ _ (by omega), tj.len]
          refine br_ok X (dk rfl) rfl (show ((42 : Nat) : Int) + 44 = ((86 : Nat) : Int) from rfl) (fun q => absurd q (nI_ge (by omega) (by omega))) (fun _ => ?_)
          iterate 2 refine fst1_ok X (dk rfl) rfl ?_
          refine callVR_ok (ci := 7) (T := TX5) (N := 3) (av := [vI q]) (r := []) X E (s5_letterAt h1 S1 (i := j) (by omega) (nI q)) lkX5_letterAt mlX6_132 lmX5_letterAt lpX5_letterAt ⟨Nat.le_of_ble_eq_true rfl, Nat.le_of_ble_eq_true rfl⟩ ⟨Nat.le_of_ble_eq_true rfl, Nat.le_of_ble_eq_true rfl⟩ rfl ⟨_, (S1 j (by omega)).2.1⟩ (Nat.le_of_ble_eq_true rfl) (dk rfl) ?_
          rintro _ rfl
          rw [tj1.lt hy (by omega)]
          iterate 2 refine fst1_ok X (dk rfl) rfl ?_
          refine getf_ok X flX6_24 (dk rfl) C1.2.1 rfl ?_
          refine fst1_ok X (dk rfl) rfl ?_
          refine callSR_ok (av := [vI y]) (r := [.ref (B 30)]) X E (s6_isName h1 (x := y) (by omega)) lkX6_isName mlX6_137 lsX6_isName ⟨Nat.le_of_ble_eq_true rfl, Nat.le_of_ble_eq_true rfl⟩ ⟨Nat.le_of_ble_eq_true rfl, Nat.le_of_ble_eq_true rfl⟩ (Nat.le_of_ble_eq_true rfl) (dk rfl) ?_
          rintro _ rfl
          have f3 : Value.int (nI q + Int32.ofInt 1) = vI (q + 1) := congrArg Value.int (by rw [nI_1', nI_add])
          have nxt : ∀ (z : Nat), z = shL k y → ∀ l : List (Nat × Value), lsel l [4, 3, 2, 0] = [(4, vI q), (3, .ref (B j)), (2, vI k), (0, .ref ox)] → WRX p la e (rmD 7 2 12) s m args below meth c D cA B0 6 (AP B Q P ox kn (aShift (nI j) (nI k) st) h) (AX (aShift (nI j) (nI k) st) st h) 77 l [vI z, .ref (B 30)] h1 (0 + 1) (0 + 6) := by
            intro z hz l hl
            refine WS.sel [4, 3, 2, 0] hl ?_
            refine callVT_ok (ci := 7) (T := TX5) (N := 3) (av := [vI z]) (r := []) X E (s5_add h1 Y S1 (i := 30) (by omega) (nI z)) lkX5_add mlX6_97 lmX5_add lpX5_add ⟨Nat.le_of_ble_eq_true rfl, Nat.le_of_ble_eq_true rfl⟩ ⟨Nat.le_of_ble_eq_true rfl, Nat.le_of_ble_eq_true rfl⟩ rfl (S1 30 (by omega)).2.1 (Nat.le_of_ble_eq_true rfl) (dk rfl) (fun h2 S2 f2 => ?_)
            rw [upF_self, upF_up, show rmI 30 = 16 from rfl] at S2
            refine fst1_ok X (dk rfl) rfl ?_
            refine br_ok X (dk rfl) rfl (show ((83 : Nat) : Int) + (-47) = ((36 : Nat) : Int) from rfl) (fun _ => ?_) (fun q => absurd trivial q)
            refine WS.sel (l' := [(4, vI (q + 1)), (3, .ref (B j)), (2, vI k), (0, .ref ox)]) [4, 3, 2, 0] (by rw [← f3]; rfl) ?_
            exact ih (q + 1) _ h2 (by omega) (by omega) S2 (f1.trans f2) (by rw [hz]; exact eU) _ rfl
          by_cases h8 : y < 8
          · rw [decide_eq_true h8]
            refine br_ok X (dk rfl) rfl (show ((62 : Nat) : Int) + 13 = ((75 : Nat) : Int) from rfl) (fun q => absurd q bI_t) (fun _ => ?_)
            iterate 5 refine fst1_ok X (dk rfl) rfl ?_
            rw [nI_add, rem8 (by omega)]
            refine br_ok X (dk rfl) rfl (show ((72 : Nat) : Int) + 5 = ((77 : Nat) : Int) from rfl) (fun _ => ?_) (fun q => absurd trivial q)
            exact nxt _ (by unfold shL; rw [if_pos (by omega)]) _ rfl
          · rw [decide_eq_false h8]
            refine br_ok X (dk rfl) rfl (show ((62 : Nat) : Int) + 13 = ((75 : Nat) : Int) from rfl) (fun _ => ?_) (fun q => absurd bI_f' q)
            refine fst1_ok X (dk rfl) rfl ?_
            exact nxt _ (by unfold shL; rw [if_neg (by rcases hok with z | z <;> omega)]) _ rfl
      iterate 2 refine fst1_ok X (dk rfl) rfl ?_
      exact loop _ 0 ([], false) h2 rfl (Nat.zero_le _) S2 f2 (by rw [List.drop_zero]) _ rfl
    · exact throwS_ok X E hl ht hlk xwX6_88 (List.mem_of_getElem? (i := 0) rfl) (dk rfl) (dk rfl) (dk rfl) (dk rfl) (dk rfl) ⟨Nat.le_of_ble_eq_true rfl, Nat.le_of_ble_eq_true rfl⟩ ⟨Nat.le_of_ble_eq_true rfl, Nat.le_of_ble_eq_true rfl⟩ (AX.two (by unfold aShift; rw [if_pos (okI_t hj (by decide)), if_neg (by rw [okI_f (fun z => c2 (by rw [nI_8']; exact inN_lt z (by decide)))]; decide)]) ⟨rfl, rfl⟩)
end S11
