/-! the class's house, exactly (printed by wip/q/genQ3.py) -/
/-- the one throw of house() is caught as the first -/
def AXh (res : RS) (st : ST) (h : AH) (E : String) (h' : AH) : Prop := (res.1.1 = 1 ∧ E = iae) ∧ res.2 = st ∧ h' = h
section Q15
variable {la : Launch} {D : va_G} {cA : Nat → ClassId} {B0 pa : Nat} {B Q P : Nat → Nat} {ox : Nat} {kn d r : Int32} {F : Nat → TC}
set_option maxHeartbeats 16000000 in
theorem s6_sizesTogether (h : AH) {st : ST} (C : CLS B Q P ox kn h F d r) (H : FS F st) (O : StO st) : CT la D cA B0 pa yX6_sizesTogether cX6_sizesTogether 6 (some .int) (rmD 5 0 0) [.ref ox] h (RP (.int (nI (szN st.1 6))) h) := by
  refine CT_of (by decide +kernel) (Nat.le_of_ble_eq_true rfl) ?_
  intro p e s m args below meth c X E hr hlk hnm
  have dk : ∀ {pc : Nat} {q : Instr × Nat}, lkd DX6_sizesTogether pc = some q → decode cX6_sizesTogether pc = .ok q := lkd_ok DX6_sizesTogether_ok
  have loop : ∀ (d k : Nat), d = 6 - k → k ≤ 6 → ∀ l : List (Nat × Value), lsel l [4, 3, 2, 1] = [(4, vI k), (3, vI 6), (2, .ref (P 0)), (1, .int (nI (szN st.1 k)))] → WR p la e (rmD 5 0 0) s m args below meth c D cA B0 6 (RP (.int (nI (szN st.1 6))) h) 13 l [] h 0 0 := by
    intro d
    induction d with
    | zero =>
      intro k hd hk l hl
      have hk2 : k = 6 := by omega
      subst hk2
      refine WS.sel [4, 3, 2, 1] hl ?_
      iterate 2 refine fst1_ok X (dk rfl) rfl ?_
      refine br_ok X (dk rfl) rfl (show ((16 : Nat) : Int) + 23 = ((39 : Nat) : Int) from rfl) (fun _ => ?_) (fun q => absurd (Int32.le_refl _) q)
      refine fst1_ok X (dk rfl) rfl ?_
      exact reti_ok X hr hlk rfl (dk rfl) (⟨rfl, rfl⟩) (Nat.le_of_ble_eq_true rfl) (Nat.le_of_ble_eq_true rfl)
    | succ d ih =>
      intro k hd hk l hl
      have f3 : Value.int (nI k + Int32.ofInt 1) = vI (k + 1) := congrArg Value.int (by rw [nI_1', nI_add])
      refine WS.sel [4, 3, 2, 1] hl ?_
      iterate 2 refine fst1_ok X (dk rfl) rfl ?_
      refine br_ok X (dk rfl) rfl (show ((16 : Nat) : Int) + 23 = ((39 : Nat) : Int) from rfl) (fun q => absurd q (nI_ge (a := k) (b := 6) (by omega) (by omega))) (fun _ => ?_)
      iterate 2 refine fst1_ok X (dk rfl) rfl ?_
      refine aldr_ok X (Or.inl rfl) (dk rfl) C.2.2.1.1 (by omega) (rgB_get B 0 (k := k) (by omega)) ?_
      iterate 3 refine fst1_ok X (dk rfl) rfl ?_
      obtain ⟨n1, sj, ej, tj, wj, lj⟩ := H.slot O (j := k) (by omega)
      rw [Nat.zero_add]
      refine callVR_ok (ci := 7) (T := TX5) (N := 3) (av := []) (r := [.int (nI (szN st.1 k))]) X E (s5_length _ C.1 (i := k) (by omega)) lkX5_length mlX6_76 lmX5_length lpX5_length ⟨Nat.le_of_ble_eq_true rfl, Nat.le_of_ble_eq_true rfl⟩ ⟨Nat.le_of_ble_eq_true rfl, Nat.le_of_ble_eq_true rfl⟩ rfl ⟨_, (C.1 k (by omega)).2.1⟩ (Nat.le_of_ble_eq_true rfl) (dk rfl) ?_
      rintro _ rfl
      rw [tj.len]
      refine fst1_ok X (dk rfl) rfl ?_
      have es : szN st.1 (k + 1) = szN st.1 k + n1.length := by
        show szN st.1 k + (st.1.getD k []).length = _
        rw [getD_of sj]
      rw [nI_add, ← es]
      iterate 2 refine fst1_ok X (dk rfl) rfl ?_
      refine br_ok X (dk rfl) rfl (show ((36 : Nat) : Int) + (-23) = ((13 : Nat) : Int) from rfl) (fun _ => ?_) (fun q => absurd trivial q)
      refine WS.sel (l' := [(4, vI (k + 1)), (3, vI 6), (2, .ref (P 0)), (1, .int (nI (szN st.1 (k + 1))))]) [4, 3, 2, 1] (by rw [← f3]; rfl) ?_
      exact ih (k + 1) (by omega) (by omega) _ rfl
  iterate 3 refine fst1_ok X (dk rfl) rfl ?_
  refine getf_ok X flX6_11 (dk rfl) C.2.1 rfl ?_
  iterate 2 refine fst1_ok X (dk rfl) rfl ?_
  refine alen_ok X (by decide) (dk rfl) C.2.2.1.1 ?_
  rw [show ((rgB B 0 6).map Value.ref).length = 6 by simp [rgB]]
  iterate 3 refine fst1_ok X (dk rfl) rfl ?_
  exact loop 6 0 rfl (Nat.zero_le _) _ rfl
set_option maxHeartbeats 16000000 in
theorem s6_movesTogether (h : AH) {st : ST} (C : CLS B Q P ox kn h F d r) (H : FS F st) (O : StO st) : CT la D cA B0 pa yX6_movesTogether cX6_movesTogether 6 (some .int) (rmD 5 0 0) [.ref ox] h (RP (.int (mvN st.2.1 3)) h) := by
  refine CT_of (by decide +kernel) (Nat.le_of_ble_eq_true rfl) ?_
  intro p e s m args below meth c X E hr hlk hnm
  have dk : ∀ {pc : Nat} {q : Instr × Nat}, lkd DX6_movesTogether pc = some q → decode cX6_movesTogether pc = .ok q := lkd_ok DX6_movesTogether_ok
  have loop : ∀ (d k : Nat), d = 3 - k → k ≤ 3 → ∀ l : List (Nat × Value), lsel l [4, 3, 2, 1] = [(4, vI k), (3, vI 3), (2, .ref (P 1)), (1, .int (mvN st.2.1 k))] → WR p la e (rmD 5 0 0) s m args below meth c D cA B0 6 (RP (.int (mvN st.2.1 3)) h) 13 l [] h 0 0 := by
    intro d
    induction d with
    | zero =>
      intro k hd hk l hl
      have hk2 : k = 3 := by omega
      subst hk2
      refine WS.sel [4, 3, 2, 1] hl ?_
      iterate 2 refine fst1_ok X (dk rfl) rfl ?_
      refine br_ok X (dk rfl) rfl (show ((16 : Nat) : Int) + 23 = ((39 : Nat) : Int) from rfl) (fun _ => ?_) (fun q => absurd (Int32.le_refl _) q)
      refine fst1_ok X (dk rfl) rfl ?_
      exact reti_ok X hr hlk rfl (dk rfl) (⟨rfl, rfl⟩) (Nat.le_of_ble_eq_true rfl) (Nat.le_of_ble_eq_true rfl)
    | succ d ih =>
      intro k hd hk l hl
      have f3 : Value.int (nI k + Int32.ofInt 1) = vI (k + 1) := congrArg Value.int (by rw [nI_1', nI_add])
      refine WS.sel [4, 3, 2, 1] hl ?_
      iterate 2 refine fst1_ok X (dk rfl) rfl ?_
      refine br_ok X (dk rfl) rfl (show ((16 : Nat) : Int) + 23 = ((39 : Nat) : Int) from rfl) (fun q => absurd q (nI_ge (a := k) (b := 3) (by omega) (by omega))) (fun _ => ?_)
      iterate 2 refine fst1_ok X (dk rfl) rfl ?_
      refine aldr_ok X (Or.inr rfl) (dk rfl) C.2.2.1.2.1 (by omega) (rgB_get P 7 (k := k) (by omega)) ?_
      iterate 3 refine fst1_ok X (dk rfl) rfl ?_
      obtain ⟨rows, sk, rk⟩ := H.2 k (by omega)
      have ok := C.2.2.1.2.2.1 k (by omega)
      refine callVR_ok (ci := 2) (T := TX0) (N := 1) (av := []) (r := [.int (mvN st.2.1 k)]) X E (s0_movedCount _ C.1 ok rk) lkX0_movedCount mlX6_163 lmX0_movedCount lpX0_movedCount ⟨Nat.le_of_ble_eq_true rfl, Nat.le_of_ble_eq_true rfl⟩ ⟨Nat.le_of_ble_eq_true rfl, Nat.le_of_ble_eq_true rfl⟩ rfl ⟨_, ok.2.choose_spec.1⟩ (Nat.le_of_ble_eq_true rfl) (dk rfl) ?_
      rintro _ rfl
      refine fst1_ok X (dk rfl) rfl ?_
      have es : mvN st.2.1 (k + 1) = mvN st.2.1 k + bcF (nI (movedN rows 8)) := by
        show mvN st.2.1 k + bcF (nI (movedN (st.2.1.getD k []) 8)) = _
        rw [getD_of sk]
      rw [← es]
      iterate 2 refine fst1_ok X (dk rfl) rfl ?_
      refine br_ok X (dk rfl) rfl (show ((36 : Nat) : Int) + (-23) = ((13 : Nat) : Int) from rfl) (fun _ => ?_) (fun q => absurd trivial q)
      refine WS.sel (l' := [(4, vI (k + 1)), (3, vI 3), (2, .ref (P 1)), (1, .int (mvN st.2.1 (k + 1)))]) [4, 3, 2, 1] (by rw [← f3]; rfl) ?_
      exact ih (k + 1) (by omega) (by omega) _ rfl
  iterate 3 refine fst1_ok X (dk rfl) rfl ?_
  refine getf_ok X flX6_17 (dk rfl) C.2.1 rfl ?_
  iterate 2 refine fst1_ok X (dk rfl) rfl ?_
  refine alen_ok X (by decide) (dk rfl) C.2.2.1.2.1 ?_
  rw [show ((rgB P 7 3).map Value.ref).length = 3 by simp [rgB]]
  iterate 3 refine fst1_ok X (dk rfl) rfl ?_
  exact loop 3 0 rfl (Nat.zero_le _) _ rfl
set_option maxHeartbeats 16000000 in
theorem s6_house (h : AH) (hl : la.stackTraces = false) (Y : LYO B Q) {st : ST} (C0 : StC B Q P ox kn h st) (x1 : Int32) : CTX la D cA B0 pa yX6_house cX6_house 2 (some .int) (rmD 7 1 6) [.ref ox, .int x1] h (AP B Q P ox kn (aHouse kn x1 st) h) (AXh (aHouse kn x1 st) st h) := by
  refine CTX_of (by decide +kernel) (Nat.le_of_ble_eq_true rfl) ?_
  intro p e s m args below meth c X E hr hlk hnm ht
  have dk : ∀ {pc : Nat} {q : Instr × Nat}, lkd DX6_house pc = some q → decode cX6_house pc = .ok q := lkd_ok DX6_house_ok
  obtain ⟨F, C, H, O⟩ := id C0
  refine fst1_ok X (dk rfl) rfl ?_
  refine br_ok X (dk rfl) rfl (show ((1 : Nat) : Int) + 8 = ((9 : Nat) : Int) from rfl) (fun c0 => ?_) (fun c0 => ?_)
  · exact throwS_ok X E hl ht hlk xwX6_88 (List.mem_of_getElem? (i := 3) rfl) (dk rfl) (dk rfl) (dk rfl) (dk rfl) (dk rfl) ⟨Nat.le_of_ble_eq_true rfl, Nat.le_of_ble_eq_true rfl⟩ ⟨Nat.le_of_ble_eq_true rfl, Nat.le_of_ble_eq_true rfl⟩ (⟨⟨by unfold aHouse; rw [if_neg (by rw [okI_neg c0]; decide)], rfl⟩, by unfold aHouse; rw [if_neg (by rw [okI_neg c0]; decide)], rfl⟩)
  · obtain ⟨q9, hq9, rfl⟩ := nI_of c0
    iterate 2 refine fst1_ok X (dk rfl) rfl ?_
    refine br_ok X (dk rfl) rfl (show ((6 : Nat) : Int) + 13 = ((19 : Nat) : Int) from rfl) (fun c1 => ?_) (fun c1 => ?_)
    · have q4 : q9 ≤ 4 := (nI_leI (b := 4) (by omega) (by omega)).mp (by rw [show nI 4 = Int32.ofInt 4 by decide +kernel]; exact c1)
      have e : aHouse kn (nI q9) st = ((0, hsN kn q9 st), st) := by
        unfold aHouse
        rw [if_pos (okI_t (show q9 < 5 by omega) (by decide)), xI_n (by omega)]
      rw [e]
      refine fst1_ok X (dk rfl) rfl ?_
      match q9, q4 with
      | 0, _ =>
        refine tsw_ok X (off := 32) (tgt := 52) (dk rfl) (by decide +kernel) (by decide +kernel) (by decide +kernel) rfl ?_
        refine fst1_ok X (dk rfl) rfl ?_
        refine getf_ok X flX6_241 (dk rfl) C.2.1 rfl ?_
        refine WRX.ret ?_
        exact reti_ok X hr hlk rfl (dk rfl) (⟨rfl, rfl, ⟨F, C, H, O⟩, FrC.rf _⟩) (Nat.le_of_ble_eq_true rfl) (Nat.le_of_ble_eq_true rfl)
      | 1, _ =>
        refine tsw_ok X (off := 37) (tgt := 57) (dk rfl) (by decide +kernel) (by decide +kernel) (by decide +kernel) rfl ?_
        refine fst1_ok X (dk rfl) rfl ?_
        refine getf_ok X flX6_245 (dk rfl) C.2.1 rfl ?_
        refine WRX.ret ?_
        exact reti_ok X hr hlk rfl (dk rfl) (⟨rfl, rfl, ⟨F, C, H, O⟩, FrC.rf _⟩) (Nat.le_of_ble_eq_true rfl) (Nat.le_of_ble_eq_true rfl)
      | 2, _ =>
        refine tsw_ok X (off := 42) (tgt := 62) (dk rfl) (by decide +kernel) (by decide +kernel) (by decide +kernel) rfl ?_
        refine fst1_ok X (dk rfl) rfl ?_
        refine getf_ok X flX6_248 (dk rfl) C.2.1 rfl ?_
        refine WRX.ret ?_
        exact reti_ok X hr hlk rfl (dk rfl) (⟨rfl, rfl, ⟨F, C, H, O⟩, FrC.rf _⟩) (Nat.le_of_ble_eq_true rfl) (Nat.le_of_ble_eq_true rfl)
      | 3, _ =>
        refine tsw_ok X (off := 47) (tgt := 67) (dk rfl) (by decide +kernel) (by decide +kernel) (by decide +kernel) rfl ?_
        refine fst1_ok X (dk rfl) rfl ?_
        refine callVR_ok (ci := 8) (T := TX6) (N := 14) (av := []) (r := []) X E (s6_sizesTogether _ C H O) lkX6_sizesTogether mlX6_251 lmX6_sizesTogether lpX6_sizesTogether ⟨Nat.le_of_ble_eq_true rfl, Nat.le_of_ble_eq_true rfl⟩ ⟨Nat.le_of_ble_eq_true rfl, Nat.le_of_ble_eq_true rfl⟩ rfl ⟨_, C.2.1⟩ (Nat.le_of_ble_eq_true rfl) (dk rfl) ?_
        rintro _ rfl
        refine WRX.ret ?_
        exact reti_ok X hr hlk rfl (dk rfl) (⟨rfl, rfl, ⟨F, C, H, O⟩, FrC.rf _⟩) (Nat.le_of_ble_eq_true rfl) (Nat.le_of_ble_eq_true rfl)
      | 4, _ =>
        refine tswo_ok X (tgt := 72) (dk rfl) (by decide +kernel) rfl ?_
        refine fst1_ok X (dk rfl) rfl ?_
        refine callVR_ok (ci := 8) (T := TX6) (N := 14) (av := []) (r := []) X E (s6_movesTogether _ C H O) lkX6_movesTogether mlX6_254 lmX6_movesTogether lpX6_movesTogether ⟨Nat.le_of_ble_eq_true rfl, Nat.le_of_ble_eq_true rfl⟩ ⟨Nat.le_of_ble_eq_true rfl, Nat.le_of_ble_eq_true rfl⟩ rfl ⟨_, C.2.1⟩ (Nat.le_of_ble_eq_true rfl) (dk rfl) ?_
        rintro _ rfl
        refine WRX.ret ?_
        exact reti_ok X hr hlk rfl (dk rfl) (⟨rfl, rfl, ⟨F, C, H, O⟩, FrC.rf _⟩) (Nat.le_of_ble_eq_true rfl) (Nat.le_of_ble_eq_true rfl)
    · exact throwS_ok X E hl ht hlk xwX6_88 (List.mem_of_getElem? (i := 3) rfl) (dk rfl) (dk rfl) (dk rfl) (dk rfl) (dk rfl) ⟨Nat.le_of_ble_eq_true rfl, Nat.le_of_ble_eq_true rfl⟩ ⟨Nat.le_of_ble_eq_true rfl, Nat.le_of_ble_eq_true rfl⟩ (⟨⟨by unfold aHouse; rw [if_neg (by rw [okI_big (by rcases Nat.lt_or_ge 4 q9 with z | z; exact z; exact absurd ((nI_leI (by omega) (by omega)).mpr z) (by rw [show nI 4 = Int32.ofInt 4 by decide +kernel]; exact c1)) hq9]; decide)], rfl⟩, by unfold aHouse; rw [if_neg (by rw [okI_big (by rcases Nat.lt_or_ge 4 q9 with z | z; exact z; exact absurd ((nI_leI (by omega) (by omega)).mpr z) (by rw [show nI 4 = Int32.ofInt 4 by decide +kernel]; exact c1)) hq9]; decide)], rfl⟩)
end Q15
