/-! alike: made alike, and told -/
set_option maxRecDepth 100000 in
theorem lpX8_answer : Cond.selects yX8_answer.cls yX8_answer yX8_answer ∈ WT := WT_of (by decide +kernel) rfl
set_option maxRecDepth 100000 in
theorem lpX9_answer : Cond.selects yX9_answer.cls yX9_answer yX9_answer ∈ WT := WT_of (by decide +kernel) rfl
theorem cnS_le (X : List Nat) (S : SS) : cnS X S ≤ 8 := by
  have h : sJ (cnN X S) 8 ≤ sJ (fun _ => 1) 8 := sJ_le (fun i _ => by
    unfold cnN nbN
    split <;> omega)
  rw [sJ_1] at h
  exact h
theorem alN : ∀ c, c < 9 → 37 + 2 * (64 + 2 * H1 c) + (1 + 8 * (1 + 64 * (c + 1))) ≤ 8500 ∧ 709 + 2 * (11 + 30 * (31 + H0 c)) + (8 + 8 * (1 + 1280 * (c + 1))) ≤ 102500 := by decide
theorem alL1 (x g E : Nat) (h : g ≤ 62 + 2 * x) (h1 : 37 + 2 * (64 + 2 * x) + E ≤ 8500) : 37 + (2 + g) + (2 + g) + E ≤ 8500 := by omega
theorem alL2 (x g E : Nat) (h : g ≤ 30 * (31 + x)) (h1 : 709 + 2 * (11 + 30 * (31 + x)) + E ≤ 102500) : 709 + (11 + g) + (11 + g) + E ≤ 102500 := by omega
theorem alN1 (c : Nat) (hc : c < 9) (g : Nat) (h : g ≤ 62 + 2 * H1 c) : 37 + (2 + g) + (2 + g) + (1 + 8 * (1 + 64 * (c + 1))) ≤ 8500 := alL1 (H1 c) g _ h (alN c hc).1
theorem alN2 (c : Nat) (hc : c < 9) (g : Nat) (h : g ≤ 30 * (31 + H0 c)) : 709 + (11 + g) + (11 + g) + (8 + 8 * (1 + 1280 * (c + 1))) ≤ 102500 := alL2 (H0 c) g _ h (alN c hc).2
/-- room for making two terms alike: what is needed before it is known whether they can be -/
def alC (one other : List Nat) (x : Int32) (C N : Nat) : Prop := (37 ≤ C ∧ 709 ≤ N) ∧ (x = 0 → ∀ G : GS, goF 40 one other none8 0 0 = some G → 2 + G.2.2.2.1 ≤ C ∧ 11 + G.2.2.2.2 ≤ N) ∧ C ≤ 8500 ∧ N ≤ 102500 ∧
  (CanR one other x → (x = 0 → ∃ (G : GS) (S : SS) (aC aN : Nat), goF 40 one other none8 0 0 = some G ∧ G.1 = smO (one ++ other) S ∧ S1 (one ++ other) S ∧ aC = 1 + 8 * (1 + 64 * (cnS (one ++ other) S + 1)) ∧ aN = 8 + 8 * (1 + 1280 * (cnS (one ++ other) S + 1)) ∧ C + (2 + G.2.2.2.1) + aC ≤ 8500 ∧ N + (11 + G.2.2.2.2) + aN ≤ 102500) ∧ (¬ x = 0 → C = 37 ∧ N = 709))
theorem alC_ok {one other : List Nat} (t1 : TW one ∧ one.length ≤ 16) (t2 : TW other ∧ other.length ≤ 16) (x : Int32) : ∃ C N, alC one other x C N := by
  by_cases hx : x = 0
  · obtain ⟨G, hG, g1, g2, g3, g4⟩ := goE t1 t2
    refine ⟨37 + (2 + G.2.2.2.1), 709 + (11 + G.2.2.2.2), ⟨by omega, by omega⟩, fun _ G' hG' => ?_, by omega, by omega, fun hc => ⟨fun _ => ?_, fun z => absurd hx z⟩⟩
    · rw [hG] at hG'
      cases hG'
      exact ⟨by omega, by omega⟩
    · obtain ⟨G', hG', w0⟩ := hc.1 hx
      rw [hG] at hG'
      cases hG'
      obtain ⟨S, e1, e2, -, e3, e4⟩ := g4 w0
      have h9 := cnS_le (one ++ other) S
      exact ⟨G, S, _, _, hG, e1, e2, rfl, rfl, alN1 _ (by omega) _ e3, alN2 _ (by omega) _ e4⟩
  · exact ⟨37, 709, ⟨by omega, by omega⟩, fun z => absurd z hx, by omega, by omega, fun _ => ⟨fun z => absurd z hx, fun _ => ⟨rfl, rfl⟩⟩⟩
section M80
variable {la : Launch} {D : va_G} {cA : Nat → ClassId} {B0 pa : Nat}
variable {o S A : Nat} {sl : List (List Nat)} {an : List (List (List Nat))} {a r kn th : Int32}
set_option maxHeartbeats 4000000 in
theorem c_alike (h : AH) (M : MD h o S A sl an a r kn th) (x1 x2 x3 x4 : Int32) : CT la D cA B0 pa yX10_alike cX10_alike 6 (some .int) (rmD 87 8600 102600) [.ref o, .int x1, .int x2, .int x3, .int x4] h (intR o S A kn h) := by
  refine CT_of (by decide +kernel) (Nat.le_of_ble_eq_true rfl) ?_
  intro p e s m args below meth c X E hr hlk hnm
  have dk : ∀ {pc : Nat} {q : Instr × Nat}, lkd DX10_alike pc = some q → decode cX10_alike pc = .ok q := lkd_ok DX10_alike_ok
  have mid2 : ∀ t1 t2 : Bool, (t1 = false → inN 6 x1 ∧ inN 6 x2 ∧ inN 3 x3) → (t2 = false → inN 2 x4) → WR p la e (rmD 87 8600 102600) s m args below meth c D cA B0 6 (intR o S A kn h) 43 (lv_args 0 [.ref o, .int x1, .int x2, .int x3, .int x4]) [.int (bI t2), .int (bI t1), .ref o] h 0 0 := by
    intro t1 t2 ht1 ht2
    refine thr2_ok X E M ⟨Nat.le_of_ble_eq_true rfl, Nat.le_of_ble_eq_true rfl⟩ ⟨Nat.le_of_ble_eq_true rfl, Nat.le_of_ble_eq_true rfl⟩ (Nat.le_of_ble_eq_true rfl) (dk rfl) (fun h1 a1 r1 th1 M1 F1 => ?_)
    cases hb : (t1 || t2) with
    | true =>
      refine br_ok X (dk rfl) rfl (show ((46 : Nat) : Int) + 5 = ((51 : Nat) : Int) from rfl) (fun q => absurd q bI_t) (fun _ => ?_)
      refine fst1_ok X (dk rfl) rfl ?_
      exact reti_ok X hr hlk rfl (dk rfl) ⟨⟨_, rfl⟩, ⟨_, _, _, _, _, M1⟩, F1⟩ (Nat.zero_le _) (Nat.zero_le _)
    | false =>
      refine br_ok X (dk rfl) rfl (show ((46 : Nat) : Int) + 5 = ((51 : Nat) : Int) from rfl) (fun _ => ?_) (fun q => absurd bI_f' q)
      obtain ⟨hb1, hb2⟩ := Bool.or_eq_false_iff.mp hb
      obtain ⟨⟨j1, hj1, rfl⟩, ⟨j2, hj2, rfl⟩, ⟨j3, hj3, rfl⟩⟩ := ht1 hb1
      obtain ⟨j4, hj4, rfl⟩ := ht2 hb2
      obtain ⟨ss, s1, s2, s3⟩ := M1.slot
      obtain ⟨as, a1, a2, a3⟩ := M1.ans
      obtain ⟨b1, y1, e1, f1, g1, w1, n1⟩ := s3 j1 hj1
      have ly1 : (y1.map vI).length = y1.length := List.length_map _
      obtain ⟨b2, y2, e2, f2, g2, w2, n2⟩ := s3 j2 hj2
      have ly2 : (y2.map vI).length = y2.length := List.length_map _
      obtain ⟨b3, y3, e3, f3, g3, w3, n3⟩ := a3 j3 hj3
      obtain ⟨C, N, ac1, ac2, ac3, ac4, ac5⟩ := alC_ok ⟨w1, n1⟩ ⟨w2, n2⟩ (nI j4)
      repeat refine fst1_ok X (dk rfl) rfl ?_
      refine getf_ok X flX10_11 (dk rfl) M1.obj rfl ?_
      refine fst1_ok X (dk rfl) rfl ?_
      refine ldr_ok X (dk rfl) s2 e1 (by omega) ?_
      repeat refine fst1_ok X (dk rfl) rfl ?_
      refine getf_ok X flX10_11 (dk rfl) M1.obj rfl ?_
      refine fst1_ok X (dk rfl) rfl ?_
      refine ldr_ok X (dk rfl) s2 e2 (by omega) ?_
      repeat refine fst1_ok X (dk rfl) rfl ?_
      refine callS_ok (av := [.ref b1, .ref b2, .int (nI j4)]) (r := []) X E (c_canBe h1 (nI j4) ac1 ac2 g1 g2 ⟨w1, n1⟩ ⟨w2, n2⟩) lkX10_canBe mlX10_153 lsX10_canBe ⟨Nat.le_of_ble_eq_true rfl, Nat.le_of_ble_eq_true rfl⟩ ⟨by show 0 + C ≤ 8600; omega, by show 0 + N ≤ 102600; omega⟩ (Nat.le_of_ble_eq_true rfl) (dk rfl) ?_
      rintro v h2 ⟨bb, rfl, XQ, hcan⟩
      have M2 := M1.ext XQ
      have FQ := F1.trans (Fr.ext XQ)
      cases bb with
      | false =>
        refine br_ok X (dk rfl) rfl (show ((68 : Nat) : Int) + 9 = ((77 : Nat) : Int) from rfl) (fun q => absurd q bI_f) (fun _ => ?_)
        repeat refine fst1_ok X (dk rfl) rfl ?_
        refine done_ok X E M2 ⟨Nat.le_of_ble_eq_true rfl, Nat.le_of_ble_eq_true rfl⟩ ⟨by show 0 + C ≤ 8600; omega, by show 0 + N ≤ 102600; omega⟩ (Nat.le_of_ble_eq_true rfl) (dk rfl) (fun h9 a9 r9 th9 M9 F9 => ?_)
        exact reti_ok X hr hlk rfl (dk rfl) ⟨⟨_, rfl⟩, MI.trans (FQ) ⟨⟨_, _, _, _, _, M9⟩, F9⟩⟩ (by show 0 + C ≤ 8600; omega) (by show 0 + N ≤ 102600; omega)
      | true =>
        have endA : ∀ (h3 : AH) (q : Nat) (rows : List (List Nat)) (l : List (Nat × Value)), lsel l [3, 0] = [(3, vI j3), (0, .ref o)] → Ext h2 h3 → Ans h3 q rows → AO rows → q ≠ S → WR p la e (rmD 87 8600 102600) s m args below meth c D cA B0 6 (intR o S A kn h) 129 l [.ref q] h3 8500 102500 := by
          intro h3 q rows l hl X3 hq hA hqS
          refine WS.sel [3, 0] hl ?_
          have M3 := M2.ext X3
          repeat refine fst1_ok X (dk rfl) rfl ?_
          refine br_ok X (dk rfl) rfl (show ((133 : Nat) : Int) + 10 = ((143 : Nat) : Int) from rfl) (fun _ => ?_) (fun q => absurd trivial q)
          repeat refine fst1_ok X (dk rfl) rfl ?_
          refine callV_ok (ci := 12) (T := TX10) (N := 6) (av := [vI j3, .ref q]) (r := []) X E (c_become h3 M3 hj3 hq hA hqS) lkX10_become mlX10_145 lmX10_become lpX10_become ⟨Nat.le_of_ble_eq_true rfl, Nat.le_of_ble_eq_true rfl⟩ ⟨Nat.le_of_ble_eq_true rfl, Nat.le_of_ble_eq_true rfl⟩ rfl M3.obj (Nat.le_of_ble_eq_true rfl) (dk rfl) ?_
          rintro v h4 ⟨⟨w9, rfl⟩, I9⟩
          exact reti_ok X hr hlk rfl (dk rfl) ⟨⟨_, rfl⟩, MI.trans (FQ.trans (Fr.ext X3)) I9⟩ (Nat.le_of_ble_eq_true rfl) (Nat.le_of_ble_eq_true rfl)
        have endN : ∀ (h3 : AH) (l : List (Nat × Value)), lsel l [3, 0] = [(3, vI j3), (0, .ref o)] → Ext h2 h3 → WR p la e (rmD 87 8600 102600) s m args below meth c D cA B0 6 (intR o S A kn h) 129 l [.null] h3 8500 102500 := by
          intro h3 l hl X3
          refine WS.sel [3, 0] hl ?_
          have M3 := M2.ext X3
          repeat refine fst1_ok X (dk rfl) rfl ?_
          refine br_ok X (dk rfl) rfl (show ((133 : Nat) : Int) + 10 = ((143 : Nat) : Int) from rfl) (fun q => absurd q (fun z => z)) (fun _ => ?_)
          repeat refine fst1_ok X (dk rfl) rfl ?_
          refine no_ok X E M3 ⟨Nat.le_of_ble_eq_true rfl, Nat.le_of_ble_eq_true rfl⟩ ⟨Nat.le_of_ble_eq_true rfl, Nat.le_of_ble_eq_true rfl⟩ (Nat.le_of_ble_eq_true rfl) (dk rfl) (fun h9 a9 r9 th9 M9 F9 => ?_)
          refine br_ok X (dk rfl) rfl (show ((140 : Nat) : Int) + 10 = ((150 : Nat) : Int) from rfl) (fun _ => ?_) (fun q => absurd trivial q)
          exact reti_ok X hr hlk rfl (dk rfl) ⟨⟨_, rfl⟩, MI.trans (FQ.trans (Fr.ext X3)) ⟨⟨_, _, _, _, _, M9⟩, F9⟩⟩ (Nat.le_of_ble_eq_true rfl) (Nat.le_of_ble_eq_true rfl)
        refine br_ok X (dk rfl) rfl (show ((68 : Nat) : Int) + 9 = ((77 : Nat) : Int) from rfl) (fun _ => ?_) (fun q => absurd bI_t q)
        repeat refine fst1_ok X (dk rfl) rfl ?_
        refine br_ok X (dk rfl) rfl (show ((79 : Nat) : Int) + 28 = ((107 : Nat) : Int) from rfl) (fun hx => ?_) (fun hx => ?_)
        · obtain ⟨hc1, hc2⟩ := (ac5 (hcan rfl)).2 hx
          subst hc1
          subst hc2
          obtain ⟨hY, z1, z2⟩ := BY_of ⟨w1, n1⟩ ⟨w2, n2⟩
          refine new_ok X nc10_165 (dk rfl) (Nat.le_of_ble_eq_true rfl) (Nat.le_of_ble_eq_true rfl) (fun u hu hBu => ?_)
          have XU := Ext.new hu ((10, [Value.null, .null, .null, .int 0, .int 0]) : AC)
          repeat refine fst1_ok X (dk rfl) rfl ?_
          refine getf_ok X flX10_11 (dk rfl) (XU _ _ M2.obj) rfl ?_
          refine fst1_ok X (dk rfl) rfl ?_
          refine ldr_ok X (dk rfl) (XU _ _ (XQ _ _ s2)) e1 (by omega) ?_
          repeat refine fst1_ok X (dk rfl) rfl ?_
          refine getf_ok X flX10_11 (dk rfl) (XU _ _ M2.obj) rfl ?_
          refine fst1_ok X (dk rfl) rfl ?_
          refine ldr_ok X (dk rfl) (XU _ _ (XQ _ _ s2)) e2 (by omega) ?_
          refine callI_ok (av := [.ref b1, .ref b2]) (r := [.ref u]) X E (c_init8 _ hY (hup_self _ _ _) (by rw [z1]; exact XU _ _ (XQ _ _ g1)) (by rw [z2]; exact XU _ _ (XQ _ _ g2))) lkX8_init mlX10_167 lmX8_init rfl ⟨Nat.le_of_ble_eq_true rfl, Nat.le_of_ble_eq_true rfl⟩ ⟨Nat.le_of_ble_eq_true rfl, Nat.le_of_ble_eq_true rfl⟩ (Nat.le_of_ble_eq_true rfl) (dk rfl) ?_
          rintro v h3 ⟨rfl, ⟨T, O, Q, ts, of', pt, can, M3, hI⟩, F3⟩
          have X3 : Ext h2 h3 := fun b c e => F3 b c (fun z => by rw [z, hu] at e; cases e) (XU _ _ e)
          obtain ⟨ts9, of9, pt9, hI9⟩ := (hcan rfl).2 hx
          obtain ⟨-, -, rfl⟩ := InP_det hI hI9
          obtain ⟨hP, rr, C9, N9, hA, hC9, hN9⟩ := ansE hI M3.2.2.2.2.2.2.2.1
          refine callV_ok (ci := 10) (T := TX8) (N := 5) (av := []) (r := []) X E (c_answer8 h3 M3 hP hA) lkX8_answer mlX10_168 lmX8_answer lpX8_answer ⟨Nat.le_of_ble_eq_true rfl, Nat.le_of_ble_eq_true rfl⟩ ⟨by show 0 + 37 + 1 + 36 + C9 ≤ 8600; omega, by show 0 + 709 + 5 + 704 + N9 ≤ 102600; omega⟩ rfl M3.1 (Nat.le_of_ble_eq_true rfl) (dk rfl) ?_
          rintro v h4 hv
          refine WS.widen (k' := 8500) (n' := 102500) (by show 0 + 37 + 1 + 36 + C9 ≤ 8500; omega) (by show 0 + 709 + 5 + 704 + N9 ≤ 102500; omega) ?_
          cases rr with
          | none =>
            obtain ⟨rfl, X4⟩ := hv
            exact endN h4 _ rfl (X3.trans X4)
          | some rows =>
            obtain ⟨hAO, q, rfl, hq, hBq, X4, nQ⟩ := hv
            exact endA h4 q rows _ rfl (X3.trans X4) nQ hAO (fun z => by rw [z] at hq; have := X3 _ _ (XQ _ _ s2); rw [hq] at this; cases this)
        · have hx0 : nI j4 = 0 := Decidable.not_not.mp hx
          obtain ⟨G, SSt, aC, aN, hG, eG, hS1, hAC, hAN, hC9, hN9⟩ := (ac5 (hcan rfl)).1 hx0
          obtain ⟨hY, z1, z2⟩ := BY_of ⟨w1, n1⟩ ⟨w2, n2⟩
          refine new_ok X nc10_157 (dk rfl) (by show 0 + C + 1 ≤ 8600; omega) (by show 0 + N + 3 ≤ 102600; omega) (fun u hu hBu => ?_)
          have XU := Ext.new hu ((11, [Value.null, .int 0, .int 0]) : AC)
          repeat refine fst1_ok X (dk rfl) rfl ?_
          refine getf_ok X flX10_11 (dk rfl) (XU _ _ M2.obj) rfl ?_
          refine fst1_ok X (dk rfl) rfl ?_
          refine ldr_ok X (dk rfl) (XU _ _ (XQ _ _ s2)) e1 (by omega) ?_
          repeat refine fst1_ok X (dk rfl) rfl ?_
          refine getf_ok X flX10_11 (dk rfl) (XU _ _ M2.obj) rfl ?_
          refine fst1_ok X (dk rfl) rfl ?_
          refine ldr_ok X (dk rfl) (XU _ _ (XQ _ _ s2)) e2 (by omega) ?_
          refine callI_ok (av := [.ref b1, .ref b2]) (r := [.ref u]) X E (c_stepsInit _ (hup_self _ _ _) (XU _ _ (XQ _ _ g1)) (XU _ _ (XQ _ _ g2)) ⟨w1, n1⟩ ⟨w2, n2⟩ hG) lkX9_init mlX10_159 lmX9_init rfl ⟨Nat.le_of_ble_eq_true rfl, Nat.le_of_ble_eq_true rfl⟩ ⟨by show 0 + C + 1 + (1 + G.2.2.2.1) ≤ 8600; omega, by show 0 + N + 3 + (8 + G.2.2.2.2) ≤ 102600; omega⟩ (Nat.le_of_ble_eq_true rfl) (dk rfl) ?_
          rintro v h3 ⟨rfl, ⟨St, hSt, M3⟩, F3⟩
          have X3 : Ext h2 h3 := fun b c e => F3 b c (fun z => by rw [z, hu] at e; cases e) (XU _ _ e)
          rw [eG] at M3
          refine callV_ok (ci := 11) (T := TX9) (N := 3) (av := []) (r := []) X E (c_stAnswer h3 M3 (fun k _ => whE hY.1 hS1 k)) lkX9_answer mlX10_162 lmX9_answer lpX9_answer ⟨Nat.le_of_ble_eq_true rfl, Nat.le_of_ble_eq_true rfl⟩ ⟨by show 0 + C + 1 + (1 + G.2.2.2.1) + (1 + 8 * (1 + 64 * (cnS (y1 ++ y2) SSt + 1))) ≤ 8600; rw [← hAC]; omega, by show 0 + N + 3 + (8 + G.2.2.2.2) + (8 + 8 * (1 + 1280 * (cnS (y1 ++ y2) SSt + 1))) ≤ 102600; rw [← hAN]; omega⟩ rfl M3.1 (Nat.le_of_ble_eq_true rfl) (dk rfl) ?_
          rintro v h4 hv
          refine WS.widen (k' := 8500) (n' := 102500) (by show 0 + C + 1 + (1 + G.2.2.2.1) + (1 + 8 * (1 + 64 * (cnS (y1 ++ y2) SSt + 1))) ≤ 8500; rw [← hAC]; omega) (by show 0 + N + 3 + (8 + G.2.2.2.2) + (8 + 8 * (1 + 1280 * (cnS (y1 ++ y2) SSt + 1))) ≤ 102500; rw [← hAN]; omega) ?_
          rcases hv with ⟨rfl, X4⟩ | ⟨rows, hAO, q, rfl, hq, hBq, X4, nQ⟩
          · refine br_ok X (dk rfl) rfl (show ((104 : Nat) : Int) + 25 = ((129 : Nat) : Int) from rfl) (fun _ => ?_) (fun q => absurd trivial q)
            exact endN h4 _ rfl (X3.trans X4)
          · refine br_ok X (dk rfl) rfl (show ((104 : Nat) : Int) + 25 = ((129 : Nat) : Int) from rfl) (fun _ => ?_) (fun q => absurd trivial q)
            exact endA h4 q rows _ rfl (X3.trans X4) nQ hAO (fun z => by rw [z] at hq; have := X3 _ _ (XQ _ _ s2); rw [hq] at this; cases this)
  have mid1 : ∀ t1 : Bool, (t1 = false → inN 6 x1 ∧ inN 6 x2 ∧ inN 3 x3) → WR p la e (rmD 87 8600 102600) s m args below meth c D cA B0 6 (intR o S A kn h) 27 (lv_args 0 [.ref o, .int x1, .int x2, .int x3, .int x4]) [.int (bI t1), .ref o] h 0 0 := by
    intro t1 ht1
    have mid2 := fun t2 => mid2 t1 t2 ht1
    iterate 1 refine fst1_ok X (dk rfl) rfl ?_
    have mid2T : ∀ l : List (Nat × Value), l = (lv_args 0 [.ref o, .int x1, .int x2, .int x3, .int x4]) → WR p la e (rmD 87 8600 102600) s m args below meth c D cA B0 6 (intR o S A kn h) 38 l [.int (bI t1), .ref o] h 0 0 := by
      intro l hl
      rw [hl]
      refine fst1_ok X (dk rfl) rfl ?_
      refine br_ok X (dk rfl) rfl (show ((39 : Nat) : Int) + 4 = ((43 : Nat) : Int) from rfl) (fun _ => ?_) (fun q => absurd trivial q)
      exact mid2 true (fun z => by cases z)
    refine br_ok X (dk rfl) rfl (show ((29 : Nat) : Int) + 9 = ((38 : Nat) : Int) from rfl) (fun _ => mid2T _ rfl) (fun c1 => ?_)
    iterate 2 refine fst1_ok X (dk rfl) rfl ?_
    refine br_ok X (dk rfl) rfl (show ((35 : Nat) : Int) + 7 = ((42 : Nat) : Int) from rfl) (fun c2 => ?_) (fun _ => mid2T _ rfl)
    refine fst1_ok X (dk rfl) rfl ?_
    exact mid2 false (fun _ => inN_le (K := 1) (by omega) c1 (by rw [show nI 1 = Int32.ofInt 1 by decide +kernel]; exact c2))
  iterate 2 refine fst1_ok X (dk rfl) rfl ?_
  refine isSlot_ok X E mlX10_95 ⟨Nat.le_of_ble_eq_true rfl, Nat.le_of_ble_eq_true rfl⟩ ⟨Nat.le_of_ble_eq_true rfl, Nat.le_of_ble_eq_true rfl⟩ (Nat.le_of_ble_eq_true rfl) (dk rfl) (fun mid1b0 mid1h0 => ?_)
  cases mid1b0 with
  | false =>
    refine br_ok X (dk rfl) rfl (show ((5 : Nat) : Int) + 17 = ((22 : Nat) : Int) from rfl) (fun _ => ?_) (fun q => absurd bI_f' q)
    refine fst1_ok X (dk rfl) rfl ?_
    refine br_ok X (dk rfl) rfl (show ((23 : Nat) : Int) + 4 = ((27 : Nat) : Int) from rfl) (fun _ => ?_) (fun q => absurd trivial q)
    exact mid1 true (fun z => by cases z)
  | true =>
    refine br_ok X (dk rfl) rfl (show ((5 : Nat) : Int) + 17 = ((22 : Nat) : Int) from rfl) (fun q => absurd q bI_t) (fun _ => ?_)
    iterate 1 refine fst1_ok X (dk rfl) rfl ?_
    refine isSlot_ok X E mlX10_95 ⟨Nat.le_of_ble_eq_true rfl, Nat.le_of_ble_eq_true rfl⟩ ⟨Nat.le_of_ble_eq_true rfl, Nat.le_of_ble_eq_true rfl⟩ (Nat.le_of_ble_eq_true rfl) (dk rfl) (fun mid1b1 mid1h1 => ?_)
    cases mid1b1 with
    | false =>
      refine br_ok X (dk rfl) rfl (show ((12 : Nat) : Int) + 10 = ((22 : Nat) : Int) from rfl) (fun _ => ?_) (fun q => absurd bI_f' q)
      refine fst1_ok X (dk rfl) rfl ?_
      refine br_ok X (dk rfl) rfl (show ((23 : Nat) : Int) + 4 = ((27 : Nat) : Int) from rfl) (fun _ => ?_) (fun q => absurd trivial q)
      exact mid1 true (fun z => by cases z)
    | true =>
      refine br_ok X (dk rfl) rfl (show ((12 : Nat) : Int) + 10 = ((22 : Nat) : Int) from rfl) (fun q => absurd q bI_t) (fun _ => ?_)
      iterate 1 refine fst1_ok X (dk rfl) rfl ?_
      refine isAnswer_ok X E mlX10_135 ⟨Nat.le_of_ble_eq_true rfl, Nat.le_of_ble_eq_true rfl⟩ ⟨Nat.le_of_ble_eq_true rfl, Nat.le_of_ble_eq_true rfl⟩ (Nat.le_of_ble_eq_true rfl) (dk rfl) (fun mid1b2 mid1h2 => ?_)
      cases mid1b2 with
      | false =>
        refine br_ok X (dk rfl) rfl (show ((19 : Nat) : Int) + 7 = ((26 : Nat) : Int) from rfl) (fun q => absurd q bI_f) (fun _ => ?_)
        refine fst1_ok X (dk rfl) rfl ?_
        refine br_ok X (dk rfl) rfl (show ((23 : Nat) : Int) + 4 = ((27 : Nat) : Int) from rfl) (fun _ => ?_) (fun q => absurd trivial q)
        exact mid1 true (fun z => by cases z)
      | true =>
        refine br_ok X (dk rfl) rfl (show ((19 : Nat) : Int) + 7 = ((26 : Nat) : Int) from rfl) (fun _ => ?_) (fun q => absurd bI_t q)
        refine fst1_ok X (dk rfl) rfl ?_
        exact mid1 false (fun _ => ⟨mid1h0 rfl, mid1h1 rfl, mid1h2 rfl⟩)
end M80
