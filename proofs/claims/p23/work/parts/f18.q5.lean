/-! how many unlike terms stand in a row of terms (printed by wip/q/genQ5.py) -/
/-- terms behind each other -/
def GX (X : List Nat) : Prop := (∃ n, endL n X = some X.length) ∧ (∀ x ∈ X, okL x) ∧ X.length ≤ 256
theorem TW.gx {X : List Nat} (h : TW X) (hl : X.length ≤ 256) : GX X := ⟨⟨1, h.1⟩, h.2, hl⟩
theorem GX.tl {X : List Nat} (h : GX X) {p : Nat} (hp : p < X.length) : endL 1 (X.drop p) = some (tl X p) ∧ 0 < tl X p ∧ p + tl X p ≤ X.length := by
  obtain ⟨⟨n, hn⟩, -, -⟩ := h
  obtain ⟨k, hk⟩ := endL_at X n p hn hp
  have h1 := endL_le hk
  rw [List.length_drop] at h1
  rw [tl_of hk]
  exact ⟨hk, endL_pos (n := 0) hk, by omega⟩
theorem GX_like {X : List Nat} (hX : GX X) {i z : Nat} (hi : i < X.length) (hz : z < X.length) : ((X.drop i).take (tl X i) = (X.drop z).take (tl X i)) ↔ sub' X i = sub' X z := by
  obtain ⟨h1, h2, h3⟩ := hX.tl hi
  have hl : (sub' X i).length = tl X i := by
    unfold sub'
    rw [List.length_take, List.length_drop]
    omega
  have tw : TW (sub' X i) := ⟨by rw [hl]; exact endL_take _ _ _ h1, fun x hx => hX.2.1 x (List.mem_of_mem_drop (List.mem_of_mem_take hx))⟩
  have h := TW_take (t := sub' X i) tw (hX.tl hz).1
  rw [List.drop_zero, List.take_length, hl] at h
  exact h
/-- whether a term stands at a place for the first time -/
def nwB (X : List Nat) (i : Nat) : Bool := decide (flX X i = i)
def shN (X : List Nat) : Nat := ctF (nwB X) X.length
theorem nwB_t {X : List Nat} {i : Nat} (hi : i < X.length) (h : ∀ y, y < i → sub' X y ≠ sub' X i) : nwB X i = true := by
  obtain ⟨h1, h2, -⟩ := flX_ok hi
  refine decide_eq_true ?_
  rcases Nat.lt_or_ge (flX X i) i with z | z
  · exact absurd h2 (h _ z)
  · omega
theorem nwB_f {X : List Nat} {i y : Nat} (hi : i < X.length) (hy : y < i) (h : sub' X y = sub' X i) : nwB X i = false := decide_eq_false (fun z => by
  obtain ⟨-, -, h3⟩ := flX_ok hi
  exact h3 y (by rw [z]; exact hy) h)
def aShared (x1 : Int32) (st : ST) : RS := if okI 6 x1 then ((0, nI (shN (st.1.getD (xI x1) []))), st) else ((1, 0), st)
section Q18
variable {la : Launch} {D : va_G} {cA : Nat → ClassId} {B0 pa : Nat} {B Q P : Nat → Nat} {ox : Nat} {kn d r : Int32} {F : Nat → TC}
set_option maxHeartbeats 16000000 in
theorem s5_firstLikeG (h : AH) (S : TS B Q h F) {i : Nat} (hi : i < 52) {X1 : List Nat} (hX : GX X1) (hN : TN (F i) X1) {z : Nat} (hz : z < X1.length) : CT la D cA B0 pa yX5_firstLike cX5_firstLike 3 (some .int) (rmD 2 0 0) [.ref (B i), vI z] h (RP (vI (flX X1 z)) h) := by
  refine CT_of (by decide +kernel) (Nat.le_of_ble_eq_true rfl) ?_
  intro p e s m args below meth c X E hr hlk hnm
  have dk : ∀ {pc : Nat} {q : Instr × Nat}, lkd DX5_firstLike pc = some q → decode cX5_firstLike pc = .ok q := lkd_ok DX5_firstLike_ok
  have hX256 := hX.2.2
  have loop : ∀ (u k : Nat), u + k = z → flF X1 z u k = flX X1 z → ∀ l : List (Nat × Value), lsel l [2, 1, 0] = [(2, vI k), (1, vI z), (0, .ref (B i))] → WR p la e (rmD 2 0 0) s m args below meth c D cA B0 3 (RP (vI (flX X1 z)) h) 2 l [] h 0 0 := by
    intro u
    induction u with
    | zero =>
      intro k hk he l hl
      have hk2 : k = z := by omega
      subst hk2
      have ez : flX X1 k = k := he.symm
      refine WS.sel [2, 1, 0] hl ?_
      iterate 2 refine fst1_ok X (dk rfl) rfl ?_
      refine br_ok X (dk rfl) rfl (show ((4 : Nat) : Int) + 21 = ((25 : Nat) : Int) from rfl) (fun _ => ?_) (fun q => absurd (Int32.le_refl _) q)
      refine fst1_ok X (dk rfl) rfl ?_
      rw [ez]
      exact reti_ok X hr hlk rfl (dk rfl) (⟨rfl, rfl⟩) (Nat.le_of_ble_eq_true rfl) (Nat.le_of_ble_eq_true rfl)
    | succ u ih =>
      intro k hk he l hl
      have f3 : Value.int (nI k + Int32.ofInt 1) = vI (k + 1) := congrArg Value.int (by rw [nI_1', nI_add])
      have hkl : k < X1.length := by omega
      rw [flF] at he
      refine WS.sel [2, 1, 0] hl ?_
      iterate 2 refine fst1_ok X (dk rfl) rfl ?_
      refine br_ok X (dk rfl) rfl (show ((4 : Nat) : Int) + 21 = ((25 : Nat) : Int) from rfl) (fun q => absurd q (nI_ge (by omega) (by omega))) (fun _ => ?_)
      iterate 4 refine fst1_ok X (dk rfl) rfl ?_
      refine callVR_ok (ci := 7) (T := TX5) (N := 3) (av := [vI k, .ref (B i), vI z]) (r := []) X E (s5_isLikeAt h S hi hN hi hN (p0 := k) (p2 := z) (by omega) (hX.tl hkl).1) lkX5_isLikeAt mlX5_68 lmX5_isLikeAt lpX5_isLikeAt ⟨Nat.le_of_ble_eq_true rfl, Nat.le_of_ble_eq_true rfl⟩ ⟨Nat.le_of_ble_eq_true rfl, Nat.le_of_ble_eq_true rfl⟩ rfl ⟨_, (S i hi).2.1⟩ (Nat.le_of_ble_eq_true rfl) (dk rfl) ?_
      rintro _ rfl
      by_cases hs : sub' X1 k = sub' X1 z
      · rw [if_pos hs] at he
        rw [decide_eq_true ((GX_like hX hkl hz).mpr hs)]
        refine br_ok X (dk rfl) rfl (show ((14 : Nat) : Int) + 5 = ((19 : Nat) : Int) from rfl) (fun q => absurd q bI_t) (fun _ => ?_)
        refine fst1_ok X (dk rfl) rfl ?_
        rw [← he]
        exact reti_ok X hr hlk rfl (dk rfl) (⟨rfl, rfl⟩) (Nat.le_of_ble_eq_true rfl) (Nat.le_of_ble_eq_true rfl)
      · rw [if_neg hs] at he
        rw [decide_eq_false (fun w => hs ((GX_like hX hkl hz).mp w))]
        refine br_ok X (dk rfl) rfl (show ((14 : Nat) : Int) + 5 = ((19 : Nat) : Int) from rfl) (fun _ => ?_) (fun q => absurd bI_f' q)
        refine fst1_ok X (dk rfl) rfl ?_
        refine br_ok X (dk rfl) rfl (show ((22 : Nat) : Int) + (-20) = ((2 : Nat) : Int) from rfl) (fun _ => ?_) (fun q => absurd trivial q)
        refine WS.sel (l' := [(2, vI (k + 1)), (1, vI z), (0, .ref (B i))]) [2, 1, 0] (by rw [← f3]; rfl) ?_
        exact ih (k + 1) (by omega) he _ rfl
  iterate 2 refine fst1_ok X (dk rfl) rfl ?_
  exact loop z 0 (Nat.add_zero _) (if_pos hz).symm _ rfl
set_option maxHeartbeats 16000000 in
theorem s5_unlikePlaces (h : AH) (S : TS B Q h F) {i : Nat} (hi : i < 52) {X1 : List Nat} (hX : GX X1) (hN : TN (F i) X1) : CT la D cA B0 pa yX5_unlikePlaces cX5_unlikePlaces 3 (some .int) (rmD 3 0 0) [.ref (B i)] h (RP (vI (shN X1)) h) := by
  refine CT_of (by decide +kernel) (Nat.le_of_ble_eq_true rfl) ?_
  intro p e s m args below meth c X E hr hlk hnm
  have dk : ∀ {pc : Nat} {q : Instr × Nat}, lkd DX5_unlikePlaces pc = some q → decode cX5_unlikePlaces pc = .ok q := lkd_ok DX5_unlikePlaces_ok
  have hX256 := hX.2.2
  have loop : ∀ (d k : Nat), d = X1.length - k → k ≤ X1.length → ∀ l : List (Nat × Value), lsel l [2, 1, 0] = [(2, vI k), (1, vI (ctF (nwB X1) k)), (0, .ref (B i))] → WR p la e (rmD 3 0 0) s m args below meth c D cA B0 3 (RP (vI (shN X1)) h) 4 l [] h 0 0 := by
    intro d
    induction d with
    | zero =>
      intro k hd hk l hl
      have hk2 : k = X1.length := by omega
      subst hk2
      refine WS.sel [2, 1, 0] hl ?_
      iterate 2 refine fst1_ok X (dk rfl) rfl ?_
      refine getf_ok X flX5_21 (dk rfl) (S i hi).2.1 rfl ?_
      rw [hN.len]
      refine br_ok X (dk rfl) rfl (show ((9 : Nat) : Int) + 21 = ((30 : Nat) : Int) from rfl) (fun _ => ?_) (fun q => absurd (Int32.le_refl _) q)
      refine fst1_ok X (dk rfl) rfl ?_
      exact reti_ok X hr hlk rfl (dk rfl) (⟨rfl, rfl⟩) (Nat.le_of_ble_eq_true rfl) (Nat.le_of_ble_eq_true rfl)
    | succ d ih =>
      intro k hd hk l hl
      have f3 : Value.int (nI k + Int32.ofInt 1) = vI (k + 1) := congrArg Value.int (by rw [nI_1', nI_add])
      have hkl : k < X1.length := by omega
      have fl := (flX_ok hkl).1
      refine WS.sel [2, 1, 0] hl ?_
      iterate 2 refine fst1_ok X (dk rfl) rfl ?_
      refine getf_ok X flX5_21 (dk rfl) (S i hi).2.1 rfl ?_
      rw [hN.len]
      refine br_ok X (dk rfl) rfl (show ((9 : Nat) : Int) + 21 = ((30 : Nat) : Int) from rfl) (fun q => absurd q (nI_ge (by omega) (by omega))) (fun _ => ?_)
      iterate 2 refine fst1_ok X (dk rfl) rfl ?_
      refine callVR_ok (ci := 7) (T := TX5) (N := 3) (av := [vI k]) (r := []) X E (s5_firstLikeG h S hi hX hN hkl) lkX5_firstLike mlX5_72 lmX5_firstLike lpX5_firstLike ⟨Nat.le_of_ble_eq_true rfl, Nat.le_of_ble_eq_true rfl⟩ ⟨Nat.le_of_ble_eq_true rfl, Nat.le_of_ble_eq_true rfl⟩ rfl ⟨_, (S i hi).2.1⟩ (Nat.le_of_ble_eq_true rfl) (dk rfl) ?_
      rintro _ rfl
      refine fst1_ok X (dk rfl) rfl ?_
      have ec : ctF (nwB X1) (k + 1) = ctF (nwB X1) k + (if nwB X1 k = true then 1 else 0) := rfl
      by_cases e1 : flX X1 k = k
      · rw [if_pos (show nwB X1 k = true from decide_eq_true e1)] at ec
        have c4 : vI (ctF (nwB X1) (k + 1)) = Value.int (nI (ctF (nwB X1) k) + Int32.ofInt 1) := by
          rw [ec, nI_1', nI_add]
          rfl
        refine br_ok X (dk rfl) rfl (show ((18 : Nat) : Int) + 6 = ((24 : Nat) : Int) from rfl) (fun q => absurd (by rw [e1]) q) (fun _ => ?_)
        refine fst1_ok X (dk rfl) rfl ?_
        refine fst1_ok X (dk rfl) rfl ?_
        refine br_ok X (dk rfl) rfl (show ((27 : Nat) : Int) + (-23) = ((4 : Nat) : Int) from rfl) (fun _ => ?_) (fun q => absurd trivial q)
        refine WS.sel (l' := [(2, vI (k + 1)), (1, vI (ctF (nwB X1) (k + 1))), (0, .ref (B i))]) [2, 1, 0] (by rw [← f3, c4]; rfl) ?_
        exact ih (k + 1) (by omega) (by omega) _ rfl
      · rw [if_neg (show ¬ nwB X1 k = true from fun y => e1 (of_decide_eq_true y)), Nat.add_zero] at ec
        refine br_ok X (dk rfl) rfl (show ((18 : Nat) : Int) + 6 = ((24 : Nat) : Int) from rfl) (fun _ => ?_) (fun q => absurd (fun y => e1 (nI_inj (by omega) (by omega) y)) q)
        refine fst1_ok X (dk rfl) rfl ?_
        refine br_ok X (dk rfl) rfl (show ((27 : Nat) : Int) + (-23) = ((4 : Nat) : Int) from rfl) (fun _ => ?_) (fun q => absurd trivial q)
        refine WS.sel (l' := [(2, vI (k + 1)), (1, vI (ctF (nwB X1) (k + 1))), (0, .ref (B i))]) [2, 1, 0] (by rw [← f3, ec]; rfl) ?_
        exact ih (k + 1) (by omega) (by omega) _ rfl
  iterate 4 refine fst1_ok X (dk rfl) rfl ?_
  exact loop _ 0 rfl (Nat.zero_le _) _ rfl
set_option maxHeartbeats 8000000 in
theorem s6_shared (h : AH) (hl : la.stackTraces = false) (Y : LYO B Q) {st : ST} (C0 : StC B Q P ox kn h st) (x1 : Int32) : CTX la D cA B0 pa yX6_shared cX6_shared 2 (some .int) (rmD 7 1 6) [.ref ox, .int x1] h (AP B Q P ox kn (aShared x1 st) h) (AX (aShared x1 st) st h) := by
  refine CTX_of (by decide +kernel) (Nat.le_of_ble_eq_true rfl) ?_
  intro p e s m args below meth c X E hr hlk hnm ht
  have dk : ∀ {pc : Nat} {q : Instr × Nat}, lkd DX6_shared pc = some q → decode cX6_shared pc = .ok q := lkd_ok DX6_shared_ok
  obtain ⟨F, C, H, O⟩ := id C0
  iterate 2 refine fst1_ok X (dk rfl) rfl ?_
  refine callVX_ok (ci := 8) (T := TX6) (N := 14) (av := [.int x1]) (r := []) X E ht hlk (s6_termOf h hl C x1) (fun E1 h1 z => AX.one (by unfold aShared; rw [if_neg (by rw [okI_f z.2.1]; decide)]) ⟨z.1, z.2.2⟩) lkX6_termOf mlX6_69 lmX6_termOf lpX6_termOf ⟨Nat.le_of_ble_eq_true rfl, Nat.le_of_ble_eq_true rfl⟩ ⟨Nat.le_of_ble_eq_true rfl, Nat.le_of_ble_eq_true rfl⟩ rfl C.2.1 (Nat.le_of_ble_eq_true rfl) (dk rfl) ?_
  rintro _ h1 ⟨⟨j, hj, rfl, rfl⟩, eh⟩
  obtain rfl := eh.symm
  obtain ⟨nj, sj, ej, tj, wj, lj⟩ := H.slot O hj
  refine callVR_ok (ci := 7) (T := TX5) (N := 3) (av := []) (r := []) X E (s5_unlikePlaces _ C.1 (i := j) (by omega) (wj.gx (by omega)) tj) lkX5_unlikePlaces mlX6_204 lmX5_unlikePlaces lpX5_unlikePlaces ⟨Nat.le_of_ble_eq_true rfl, Nat.le_of_ble_eq_true rfl⟩ ⟨Nat.le_of_ble_eq_true rfl, Nat.le_of_ble_eq_true rfl⟩ rfl ⟨_, (C.1 j (by omega)).2.1⟩ (Nat.le_of_ble_eq_true rfl) (dk rfl) ?_
  rintro _ rfl
  have e : aShared (nI j) st = ((0, nI (shN nj)), st) := by
    unfold aShared
    rw [if_pos (okI_t hj (by decide)), xI_n (by omega), getD_of sj]
  rw [e]
  refine WRX.ret ?_
  exact reti_ok X hr hlk rfl (dk rfl) (⟨rfl, rfl, ⟨F, C, H, O⟩, FrC.rf _⟩) (Nat.le_of_ble_eq_true rfl) (Nat.le_of_ble_eq_true rfl)
end Q18
