/-! go, by its fuel -/
section M51
variable {la : Launch} {D : va_G} {cA : Nat → ClassId} {B0 pa : Nat} {o9 St : Nat}
set_option maxHeartbeats 16000000 in
theorem c_go : ∀ f : Nat, GoC la D cA B0 pa o9 St f
  | 0 => by
    intro h sm mm ww u1 u2 one other g M h1 h2 t1 t2 hg
    simp [goF] at hg
  | f + 1 => by
    have IH := c_go f
    intro h sm mm ww u1 u2 one other G M hu1 hu2 t1 t2 hG
    obtain ⟨Gs, Gm, Gw, Gc, Gn⟩ := G
    refine CT_of (by decide +kernel) (Nat.le_of_ble_eq_true rfl) ?_
    intro p e s m args below meth c X E hr hlk hnm
    have dk : ∀ {pc : Nat} {q : Instr × Nat}, lkd DX9_go pc = some q → decode cX9_go pc = .ok q := lkd_ok DX9_go_ok
    have hw2 := M.2.2.2
    unfold goF at hG
    repeat refine fst1_ok X (dk rfl) rfl ?_
    refine getf_ok X flX9_25 (dk rfl) M.1 rfl ?_
    refine br_ok X (dk rfl) rfl (show ((4 : Nat) : Int) + 4 = ((8 : Nat) : Int) from rfl) (fun c1 => ?_) (fun c1 => ?_)
    · have hw0 : ww = 0 := nI_le0 (by omega) c1
      subst hw0
      rw [if_neg (Nat.lt_irrefl 0)] at hG
      repeat refine fst1_ok X (dk rfl) rfl ?_
      refine getf_ok X flX9_29 (dk rfl) M.1 rfl ?_
      repeat refine fst1_ok X (dk rfl) rfl ?_
      rw [nI_1', nI_add]
      refine putf_ok X flX9_29 ftX9_1 (Or.inl rfl) rfl rfl (dk rfl) M.1 (Nat.le_of_ble_eq_true rfl) ?_
      have M1 : SI (hup h o9 (11, [.ref St, vI (mm + 1), vI 0])) o9 St sm (mm + 1) 0 := M.fld (mm + 1) 0 (by decide)
      have F1 : Fs o9 St h (hup h o9 (11, [.ref St, vI (mm + 1), vI 0])) := (Fs.rf h).set (Or.inl rfl) _
      show WR p la e (rmD (2 * (f + 1) + 3) Gc Gn) s m args below meth c D cA B0 7 (goP o9 St h (Gs, Gm, Gw, Gc, Gn)) 18 (lv_args 0 [.ref o9, .ref u1, .ref u2]) [] (hup h o9 (11, [.ref St, vI (mm + 1), vI 0])) 0 0
      have hu1' := IA_fs M F1 hu1
      have hu2' := IA_fs M F1 hu2
      generalize hup h o9 (11, [.ref St, vI (mm + 1), vI 0]) = h1 at M1 F1 hu1' hu2'
      cases hd1 : deepF 9 sm one with
      | none => rw [hd1] at hG; cases hG
      | some r1 =>
      cases hd2 : deepF 9 sm other with
      | none => rw [hd1, hd2] at hG; cases r1 <;> cases hG
      | some r2 =>
      rw [hd1, hd2] at hG
      have w1 := deepF_TW M.2.2.1 9 t1 hd1
      have w2 := deepF_TW M.2.2.1 9 t2 hd2
      cases r1 with
      | nil => exact absurd w1.1.pos (Nat.lt_irrefl 0)
      | cons x a =>
      cases r2 with
      | nil => exact absurd w2.1.pos (Nat.lt_irrefl 0)
      | cons y b =>
      dsimp only at hG
      have hxo := w1.1.2 x List.mem_cons_self
      have hyo := w2.1.2 y List.mem_cons_self
      have hx18 := hxo.lt
      have hy18 := hyo.lt
      repeat refine fst1_ok X (dk rfl) rfl ?_
      refine callV_ok (ci := 11) (T := TX9) (N := 3) (av := [.ref u1]) (r := []) X E (c_deep h1 M1 hu1' t1 hd1) lkX9_deep mlX9_32 lmX9_deep lpX9_deep ⟨by show 0 + 1 ≤ 2 * (f + 1) + 3; omega, by show 8 + (3 + 11) + 40 * 0 ≤ 40 * (2 * (f + 1) + 3); omega⟩ ⟨Nat.zero_le _, Nat.zero_le _⟩ rfl M1.1 (Nat.le_of_ble_eq_true rfl) (dk rfl) ?_
      rintro v h2 ⟨⟨q1, rfl, hq1⟩, rfl⟩
      repeat refine fst1_ok X (dk rfl) rfl ?_
      refine callV_ok (ci := 11) (T := TX9) (N := 3) (av := [.ref u2]) (r := []) X E (c_deep h2 M1 hu2' t2 hd2) lkX9_deep mlX9_32 lmX9_deep lpX9_deep ⟨by show 0 + 1 ≤ 2 * (f + 1) + 3; omega, by show 8 + (3 + 11) + 40 * 0 ≤ 40 * (2 * (f + 1) + 3); omega⟩ ⟨Nat.zero_le _, Nat.zero_le _⟩ rfl M1.1 (Nat.le_of_ble_eq_true rfl) (dk rfl) ?_
      rintro v h3 ⟨⟨q2, rfl, hq2⟩, rfl⟩
      show WR p la e (rmD (2 * (f + 1) + 3) Gc Gn) s m args below meth c D cA B0 7 (goP o9 St h (Gs, Gm, Gw, Gc, Gn)) 29 _ _ h3 0 0
      have i1 : (List.map vI (x :: a))[0]? = some (vI x) := rfl
      have i2 : (List.map vI (y :: b))[0]? = some (vI y) := rfl
      have ret9 : ∀ (l : List (Nat × Value)) (hh : AH), SI hh o9 St Gs Gm Gw → Fs o9 St h hh → ∀ (k n : Nat), k ≤ Gc → n ≤ Gn → WR p la e (rmD (2 * (f + 1) + 3) Gc Gn) s m args below meth c D cA B0 7 (goP o9 St h (Gs, Gm, Gw, Gc, Gn)) 175 l [] hh k n := by
        intro l hh MM FF k n hk hn
        exact retv_ok X hr hlk (dk rfl) ⟨rfl, MM, FF⟩ hk hn
      have mid : ∀ (fx fy : Bool), fx = decide (x < 10) → fy = decide (y < 10) → ∀ l : List (Nat × Value), lsel l [6, 5, 4, 3, 0] = [(6, .int (bI fy)), (5, .int (bI fx)), (4, .ref q2), (3, .ref q1), (0, .ref o9)] → WR p la e (rmD (2 * (f + 1) + 3) Gc Gn) s m args below meth c D cA B0 7 (goP o9 St h (Gs, Gm, Gw, Gc, Gn)) 62 l [] h3 0 0 := by
        intro fx fy hfx hfy l hl
        refine WS.sel [6, 5, 4, 3, 0] hl ?_
        refine fst1_ok X (dk rfl) rfl ?_
        cases fx with
        | true =>
          have hx10 : x < 10 := of_decide_eq_true hfx.symm
          have hx8 : x < 8 := by rcases hxo with q | q <;> omega
          rw [if_pos hx10] at hG
          refine br_ok X (dk rfl) rfl (show ((64 : Nat) : Int) + 52 = ((116 : Nat) : Int) from rfl) (fun q => absurd q bI_t) (fun _ => ?_)
          refine fst1_ok X (dk rfl) rfl ?_
          cases fy with
          | true =>
            have hy10 : y < 10 := of_decide_eq_true hfy.symm
            have hy8 : y < 8 := by rcases hyo with q | q <;> omega
            rw [if_pos hy10] at hG
            simp only [Option.some.injEq, Prod.mk.injEq] at hG
            obtain ⟨e1, rfl, rfl, rfl, rfl⟩ := hG
            refine br_ok X (dk rfl) rfl (show ((69 : Nat) : Int) + 47 = ((116 : Nat) : Int) from rfl) (fun q => absurd q bI_t) (fun _ => ?_)
            repeat refine fst1_ok X (dk rfl) rfl ?_
            refine ald_ok X (Or.inl ⟨rfl, rfl⟩) (dk rfl) hq1 (inA_nI (j := 0) (by omega) i1) ?_
            repeat refine fst1_ok X (dk rfl) rfl ?_
            refine ald_ok X (Or.inl ⟨rfl, rfl⟩) (dk rfl) hq2 (inA_nI (j := 0) (by omega) i2) ?_
            refine br_ok X (dk rfl) rfl (show ((79 : Nat) : Int) + 96 = ((175 : Nat) : Int) from rfl) (fun c2 => ?_) (fun c2 => ?_)
            · have hxy : x = y := (nI_eq (by omega) (by omega)).mp c2
              rw [if_pos hxy] at e1
              subst e1
              exact ret9 _ _ M1 F1 _ _ (Nat.zero_le _) (Nat.zero_le _)
            · have hxy : x ≠ y := fun z => c2 (by rw [z])
              rw [if_neg hxy] at e1
              refine fst1_ok X (dk rfl) rfl ?_
              refine getf_ok X flX9_11 (dk rfl) M1.1 rfl ?_
              repeat refine fst1_ok X (dk rfl) rfl ?_
              refine ald_ok X (Or.inl ⟨rfl, rfl⟩) (dk rfl) hq1 (inA_nI (j := 0) (by omega) i1) ?_
              repeat refine fst1_ok X (dk rfl) rfl ?_
              refine ald_ok X (Or.inl ⟨rfl, rfl⟩) (dk rfl) hq2 (inA_nI (j := 0) (by omega) i2) ?_
              refine mmax_ok X (by omega) (by omega) mlX9_36 (dk rfl) (by show 1 ≤ 2 * (f + 1) + 3; omega) (by show 1 + 13 ≤ 40 * (2 * (f + 1) + 3); omega) (Nat.zero_le _) (Nat.zero_le _) ?_
              repeat refine fst1_ok X (dk rfl) rfl ?_
              refine ald_ok X (Or.inl ⟨rfl, rfl⟩) (dk rfl) hq1 (inA_nI (j := 0) (by omega) i1) ?_
              repeat refine fst1_ok X (dk rfl) rfl ?_
              refine ald_ok X (Or.inl ⟨rfl, rfl⟩) (dk rfl) hq2 (inA_nI (j := 0) (by omega) i2) ?_
              have hm8 : max x y < 8 := by omega
              refine br_ok X (dk rfl) rfl (show ((103 : Nat) : Int) + 7 = ((110 : Nat) : Int) from rfl) (fun c3 => ?_) (fun c3 => ?_)
              · have hge : y ≤ x := nI_ge' (by omega) (by omega) c3
                rw [if_neg (by omega)] at e1
                subst e1
                refine fst1_ok X (dk rfl) rfl ?_
                obtain ⟨vs, v1, v2, M2⟩ := M1.put hm8 hq2 w2
                refine str_ok X (dk rfl) v1 hq2 (by omega) (by omega) ?_
                refine br_ok X (dk rfl) rfl (show ((113 : Nat) : Int) + 62 = ((175 : Nat) : Int) from rfl) (fun _ => ?_) (fun q => absurd trivial q)
                exact ret9 _ _ M2 (F1.set (Or.inr rfl) _) _ _ (Nat.zero_le _) (Nat.zero_le _)
              · have hlt : x < y := nI_lt' (by omega) (by omega) c3
                rw [if_pos hlt] at e1
                subst e1
                refine fst1_ok X (dk rfl) rfl ?_
                refine br_ok X (dk rfl) rfl (show ((107 : Nat) : Int) + 5 = ((112 : Nat) : Int) from rfl) (fun _ => ?_) (fun q => absurd trivial q)
                obtain ⟨vs, v1, v2, M2⟩ := M1.put hm8 hq1 w1
                refine str_ok X (dk rfl) v1 hq1 (by omega) (by omega) ?_
                refine br_ok X (dk rfl) rfl (show ((113 : Nat) : Int) + 62 = ((175 : Nat) : Int) from rfl) (fun _ => ?_) (fun q => absurd trivial q)
                exact ret9 _ _ M2 (F1.set (Or.inr rfl) _) _ _ (Nat.zero_le _) (Nat.zero_le _)
          | false =>
            have hy10 : ¬ y < 10 := of_decide_eq_false hfy.symm
            rw [if_neg hy10] at hG
            have e1 := Option.some.inj hG
            refine br_ok X (dk rfl) rfl (show ((69 : Nat) : Int) + 47 = ((116 : Nat) : Int) from rfl) (fun _ => ?_) (fun q => absurd bI_f' q)
            refine fst1_ok X (dk rfl) rfl ?_
            refine br_ok X (dk rfl) rfl (show ((118 : Nat) : Int) + 15 = ((133 : Nat) : Int) from rfl) (fun q => absurd q bI_t) (fun _ => ?_)
            repeat refine fst1_ok X (dk rfl) rfl ?_
            refine ald_ok X (Or.inl ⟨rfl, rfl⟩) (dk rfl) hq1 (inA_nI (j := 0) (by omega) i1) ?_
            refine fst1_ok X (dk rfl) rfl ?_
            refine callV_ok (ci := 11) (T := TX9) (N := 3) (av := [vI x, .ref q2]) (r := []) X E (c_bind h3 M1 hx8 hq2 w2) lkX9_bind mlX9_42 lmX9_bind lpX9_bind ⟨by show 2 + 1 ≤ 2 * (f + 1) + 3; omega, by show 8 + (3 + 11) + 40 * 2 ≤ 40 * (2 * (f + 1) + 3); omega⟩ ⟨Nat.zero_le _, Nat.zero_le _⟩ rfl M1.1 (Nat.le_of_ble_eq_true rfl) (dk rfl) ?_
            rintro v h4 ⟨rfl, M4, F4⟩
            rw [e1] at M4
            refine br_ok X (dk rfl) rfl (show ((130 : Nat) : Int) + 45 = ((175 : Nat) : Int) from rfl) (fun _ => ?_) (fun q => absurd trivial q)
            exact ret9 _ _ M4 (F1.trans F4) _ _ (Nat.zero_le _) (Nat.zero_le _)
        | false =>
          have hx10 : ¬ x < 10 := of_decide_eq_false hfx.symm
          rw [if_neg hx10] at hG
          refine br_ok X (dk rfl) rfl (show ((64 : Nat) : Int) + 52 = ((116 : Nat) : Int) from rfl) (fun _ => ?_) (fun q => absurd bI_f' q)
          refine fst1_ok X (dk rfl) rfl ?_
          refine br_ok X (dk rfl) rfl (show ((118 : Nat) : Int) + 15 = ((133 : Nat) : Int) from rfl) (fun _ => ?_) (fun q => absurd bI_f' q)
          refine fst1_ok X (dk rfl) rfl ?_
          cases fy with
          | true =>
            have hy10 : y < 10 := of_decide_eq_true hfy.symm
            have hy8 : y < 8 := by rcases hyo with q | q <;> omega
            rw [if_pos hy10] at hG
            have e1 := Option.some.inj hG
            refine br_ok X (dk rfl) rfl (show ((135 : Nat) : Int) + 15 = ((150 : Nat) : Int) from rfl) (fun q => absurd q bI_t) (fun _ => ?_)
            repeat refine fst1_ok X (dk rfl) rfl ?_
            refine ald_ok X (Or.inl ⟨rfl, rfl⟩) (dk rfl) hq2 (inA_nI (j := 0) (by omega) i2) ?_
            refine fst1_ok X (dk rfl) rfl ?_
            refine callV_ok (ci := 11) (T := TX9) (N := 3) (av := [vI y, .ref q1]) (r := []) X E (c_bind h3 M1 hy8 hq1 w1) lkX9_bind mlX9_42 lmX9_bind lpX9_bind ⟨by show 2 + 1 ≤ 2 * (f + 1) + 3; omega, by show 8 + (3 + 11) + 40 * 2 ≤ 40 * (2 * (f + 1) + 3); omega⟩ ⟨Nat.zero_le _, Nat.zero_le _⟩ rfl M1.1 (Nat.le_of_ble_eq_true rfl) (dk rfl) ?_
            rintro v h4 ⟨rfl, M4, F4⟩
            rw [e1] at M4
            refine br_ok X (dk rfl) rfl (show ((147 : Nat) : Int) + 28 = ((175 : Nat) : Int) from rfl) (fun _ => ?_) (fun q => absurd trivial q)
            exact ret9 _ _ M4 (F1.trans F4) _ _ (Nat.zero_le _) (Nat.zero_le _)
          | false =>
            have hy10 : ¬ y < 10 := of_decide_eq_false hfy.symm
            rw [if_neg hy10] at hG
            refine br_ok X (dk rfl) rfl (show ((135 : Nat) : Int) + 15 = ((150 : Nat) : Int) from rfl) (fun _ => ?_) (fun q => absurd bI_f' q)
            repeat refine fst1_ok X (dk rfl) rfl ?_
            refine ald_ok X (Or.inl ⟨rfl, rfl⟩) (dk rfl) hq1 (inA_nI (j := 0) (by omega) i1) ?_
            repeat refine fst1_ok X (dk rfl) rfl ?_
            refine ald_ok X (Or.inl ⟨rfl, rfl⟩) (dk rfl) hq2 (inA_nI (j := 0) (by omega) i2) ?_
            refine br_ok X (dk rfl) rfl (show ((157 : Nat) : Int) + 11 = ((168 : Nat) : Int) from rfl) (fun c2 => ?_) (fun c2 => ?_)
            · have hxy : x = y := (nI_eq (by omega) (by omega)).mp c2
              rw [if_pos hxy] at hG
              subst hxy
              repeat refine fst1_ok X (dk rfl) rfl ?_
              refine callV_ok (ci := 11) (T := TX9) (N := 3) (av := [.ref q1, .ref q2]) (r := []) X E (c_goOn IH h3 M1 hq1 hq2 w1 w2 rfl rfl hG) lkX9_goOn mlX9_46 lmX9_goOn lpX9_goOn ⟨by show 2 * f + 4 + 1 ≤ 2 * (f + 1) + 3; omega, by show 8 + (6 + 11) + 40 * (2 * f + 4) ≤ 40 * (2 * (f + 1) + 3); omega⟩ ⟨by show 0 + Gc ≤ Gc; omega, by show 0 + Gn ≤ Gn; omega⟩ rfl M1.1 (Nat.le_of_ble_eq_true rfl) (dk rfl) ?_
              rintro v h4 ⟨rfl, M4, F4⟩
              exact ret9 _ _ M4 (F1.trans F4) _ _ (by show 0 + Gc ≤ Gc; omega) (by show 0 + Gn ≤ Gn; omega)
            · have hxy : x ≠ y := fun z => c2 (by rw [z])
              rw [if_neg hxy] at hG
              simp only [Option.some.injEq, Prod.mk.injEq] at hG
              obtain ⟨rfl, rfl, rfl, rfl, rfl⟩ := hG
              repeat refine fst1_ok X (dk rfl) rfl ?_
              refine putf_ok X flX9_25 ftX9_2 (Or.inl rfl) rfl rfl (dk rfl) M1.1 (Nat.le_of_ble_eq_true rfl) ?_
              refine br_ok X (dk rfl) rfl (show ((165 : Nat) : Int) + 10 = ((175 : Nat) : Int) from rfl) (fun _ => ?_) (fun q => absurd trivial q)
              exact ret9 _ _ (M1.fld (mm + 1) 1 (by decide)) (F1.set (Or.inl rfl) _) _ _ (Nat.zero_le _) (Nat.zero_le _)
      have second : ∀ (fx : Bool), fx = decide (x < 10) → ∀ l : List (Nat × Value), lsel l [5, 4, 3, 0] = [(5, .int (bI fx)), (4, .ref q2), (3, .ref q1), (0, .ref o9)] → WR p la e (rmD (2 * (f + 1) + 3) Gc Gn) s m args below meth c D cA B0 7 (goP o9 St h (Gs, Gm, Gw, Gc, Gn)) 46 l [] h3 0 0 := by
        intro fx hfx l hl
        refine WS.sel [5, 4, 3, 0] hl ?_
        repeat refine fst1_ok X (dk rfl) rfl ?_
        refine ald_ok X (Or.inl ⟨rfl, rfl⟩) (dk rfl) hq2 (inA_nI (j := 0) (by omega) i2) ?_
        refine fst1_ok X (dk rfl) rfl ?_
        refine br_ok X (dk rfl) rfl (show ((52 : Nat) : Int) + 7 = ((59 : Nat) : Int) from rfl) (fun c2 => ?_) (fun c2 => ?_)
        · rw [nI_10] at c2
          have hy10 : 10 ≤ y := nI_ge' (by omega) (by omega) c2
          iterate 2 refine fst1_ok X (dk rfl) rfl ?_
          exact mid fx false hfx (decide_eq_false (by omega)).symm _ rfl
        · rw [nI_10] at c2
          have hy10 : y < 10 := nI_lt' (by omega) (by omega) c2
          refine fst1_ok X (dk rfl) rfl ?_
          refine br_ok X (dk rfl) rfl (show ((56 : Nat) : Int) + 4 = ((60 : Nat) : Int) from rfl) (fun _ => ?_) (fun q => absurd trivial q)
          refine fst1_ok X (dk rfl) rfl ?_
          exact mid fx true hfx (decide_eq_true hy10).symm _ rfl
      repeat refine fst1_ok X (dk rfl) rfl ?_
      refine ald_ok X (Or.inl ⟨rfl, rfl⟩) (dk rfl) hq1 (inA_nI (j := 0) (by omega) i1) ?_
      refine fst1_ok X (dk rfl) rfl ?_
      refine br_ok X (dk rfl) rfl (show ((36 : Nat) : Int) + 7 = ((43 : Nat) : Int) from rfl) (fun c2 => ?_) (fun c2 => ?_)
      · rw [nI_10] at c2
        have hx10 : 10 ≤ x := nI_ge' (by omega) (by omega) c2
        iterate 2 refine fst1_ok X (dk rfl) rfl ?_
        exact second false (decide_eq_false (by omega)).symm _ rfl
      · rw [nI_10] at c2
        have hx10 : x < 10 := nI_lt' (by omega) (by omega) c2
        refine fst1_ok X (dk rfl) rfl ?_
        refine br_ok X (dk rfl) rfl (show ((40 : Nat) : Int) + 4 = ((44 : Nat) : Int) from rfl) (fun _ => ?_) (fun q => absurd trivial q)
        refine fst1_ok X (dk rfl) rfl ?_
        exact second true (decide_eq_true hx10).symm _ rfl
    · have hw0 : 0 < ww := by
        rcases Nat.eq_zero_or_pos ww with q | q
        · exact absurd (by rw [q]; decide) c1
        · exact q
      rw [if_pos hw0] at hG
      simp only [Option.some.injEq, Prod.mk.injEq] at hG
      obtain ⟨rfl, rfl, rfl, rfl, rfl⟩ := hG
      exact retv_ok X hr hlk (dk rfl) ⟨rfl, M, Fs.rf h⟩ (Nat.zero_le _) (Nat.zero_le _)
end M51
