/-! canBe, can: two terms made alike, both ways -/
theorem nc10_165 : NC RX10 165 10 [.null, .null, .null, .int 0, .int 0] := by
  refine ⟨RX8, TX8, 5, tyX8, rfl, cwX8, tyX8_ok, rfl, fun j hj => ?_, WT_of (by decide +kernel) rfl, WT_of (by decide +kernel) rfl, liX8⟩
  match j, hj with
  | 0, _ => rfl
  | 1, _ => rfl
  | 2, _ => rfl
  | 3, _ => rfl
  | 4, _ => rfl
/-- two terms can be made alike: by steps (0), by classes -/
def CanR (one other : List Nat) (x : Int32) : Prop := (x = 0 → ∃ G : GS, goF 40 one other none8 0 0 = some G ∧ G.2.2.1 = 0) ∧ (¬ x = 0 → ∃ ts of' pt, InP (one ++ other) one.length ts of' pt true)
theorem go_cap {one other : List Nat} (t1 : TW one ∧ one.length ≤ 16) (t2 : TW other ∧ other.length ≤ 16) {G : GS} (hG : goF 40 one other none8 0 0 = some G) : 2 + G.2.2.2.1 ≤ 8422 ∧ 11 + G.2.2.2.2 ≤ 97121 := by
  obtain ⟨G', h1, h2, h3, h4, -⟩ := goE t1 t2
  rw [hG] at h1
  cases h1
  exact ⟨by omega, by omega⟩
section M79
variable {la : Launch} {D : va_G} {cA : Nat → ClassId} {B0 pa : Nat}
set_option maxHeartbeats 4000000 in
theorem c_canBe (h : AH) {u1 u2 : Nat} {one other : List Nat} (x : Int32) {C N : Nat} (hC : 37 ≤ C ∧ 709 ≤ N) (hGo : x = 0 → ∀ G : GS, goF 40 one other none8 0 0 = some G → 2 + G.2.2.2.1 ≤ C ∧ 11 + G.2.2.2.2 ≤ N) (hu1 : h u1 = some (IA one)) (hu2 : h u2 = some (IA other)) (t1 : TW one ∧ one.length ≤ 16) (t2 : TW other ∧ other.length ≤ 16) : CT la D cA B0 pa yX10_canBe cX10_canBe 3 (some .boolean) (rmD 85 C N) [.ref u1, .ref u2, .int x] h (fun v h' => ∃ b : Bool, v = some (.int (bI b)) ∧ Ext h h' ∧ (b = true → CanR one other x)) := by
  refine CT_of (by decide +kernel) (Nat.le_of_ble_eq_true rfl) ?_
  intro p e s m args below meth c X E hr hlk hnm
  have dk : ∀ {pc : Nat} {q : Instr × Nat}, lkd DX10_canBe pc = some q → decode cX10_canBe pc = .ok q := lkd_ok DX10_canBe_ok
  refine fst1_ok X (dk rfl) rfl ?_
  refine br_ok X (dk rfl) rfl (show ((1 : Nat) : Int) + 26 = ((27 : Nat) : Int) from rfl) (fun hx => ?_) (fun hx => ?_)
  · obtain ⟨hY, z1, z2⟩ := BY_of t1 t2
    refine new_ok X nc10_165 (dk rfl) (by show 0 + 1 ≤ C; omega) (by show 0 + 5 ≤ N; omega) (fun u hu hBu => ?_)
    have XU := Ext.new hu ((10, [Value.null, .null, .null, .int 0, .int 0]) : AC)
    repeat refine fst1_ok X (dk rfl) rfl ?_
    refine callI_ok (av := [.ref u1, .ref u2]) (r := [.ref u]) X E (c_init8 _ hY (hup_self _ _ _) (by rw [z1]; exact XU _ _ hu1) (by rw [z2]; exact XU _ _ hu2)) lkX8_init mlX10_167 lmX8_init rfl ⟨Nat.le_of_ble_eq_true rfl, Nat.le_of_ble_eq_true rfl⟩ ⟨by show 0 + 1 + 36 ≤ C; omega, by show 0 + 5 + 704 ≤ N; omega⟩ (Nat.le_of_ble_eq_true rfl) (dk rfl) ?_
    rintro v h2 ⟨rfl, ⟨T, O, Q, ts, of', pt, can, M2, hI⟩, F2⟩
    have X2 : Ext h h2 := fun b c e => F2 b c (fun z => by rw [z, hu] at e; cases e) (XU _ _ e)
    refine getfN_ok X E.2.1 fnX10_207 (dk rfl) M2.1 rfl ?_
    exact reti_ok X hr hlk (bI_n can) (dk rfl) ⟨can, rfl, X2, fun hc => ⟨fun z => absurd z hx, fun _ => ⟨ts, of', pt, by rw [← hc]; exact hI⟩⟩⟩ (by show 0 + 1 + 36 ≤ C; omega) (by show 0 + 5 + 704 ≤ N; omega)
  · have hx0 : x = 0 := Decidable.not_not.mp hx
    obtain ⟨G, hG, g1, -⟩ := goE t1 t2
    obtain ⟨g2, g3⟩ := hGo hx0 G hG
    refine new_ok X nc10_157 (dk rfl) (by show 0 + 1 ≤ C; omega) (by show 0 + 3 ≤ N; omega) (fun u hu hBu => ?_)
    have XU := Ext.new hu ((11, [Value.null, .int 0, .int 0]) : AC)
    repeat refine fst1_ok X (dk rfl) rfl ?_
    refine callI_ok (av := [.ref u1, .ref u2]) (r := [.ref u]) X E (c_stepsInit _ (hup_self _ _ _) (XU _ _ hu1) (XU _ _ hu2) t1 t2 hG) lkX9_init mlX10_159 lmX9_init rfl ⟨Nat.le_of_ble_eq_true rfl, Nat.le_of_ble_eq_true rfl⟩ ⟨by show 0 + 1 + (1 + G.2.2.2.1) ≤ C; omega, by show 0 + 3 + (8 + G.2.2.2.2) ≤ N; omega⟩ (Nat.le_of_ble_eq_true rfl) (dk rfl) ?_
    rintro v h2 ⟨rfl, ⟨St, hSt, M2⟩, F2⟩
    have X2 : Ext h h2 := fun b c e => F2 b c (fun z => by rw [z, hu] at e; cases e) (XU _ _ e)
    refine getfN_ok X E.2.1 fnX10_204 (dk rfl) M2.1 rfl ?_
    have kl : 0 + 1 + (1 + G.2.2.2.1) ≤ C ∧ 0 + 3 + (8 + G.2.2.2.2) ≤ N := ⟨by omega, by omega⟩
    refine br_ok X (dk rfl) rfl (show ((16 : Nat) : Int) + 7 = ((23 : Nat) : Int) from rfl) (fun hz => ?_) (fun hz => ?_)
    · refine fst1_ok X (dk rfl) rfl ?_
      refine br_ok X (dk rfl) rfl (show ((24 : Nat) : Int) + 15 = ((39 : Nat) : Int) from rfl) (fun _ => ?_) (fun q => absurd trivial q)
      exact reti_ok X hr hlk (bI_n false) (dk rfl) ⟨false, rfl, X2, fun hc => by cases hc⟩ kl.1 kl.2
    · refine fst1_ok X (dk rfl) rfl ?_
      refine br_ok X (dk rfl) rfl (show ((20 : Nat) : Int) + 19 = ((39 : Nat) : Int) from rfl) (fun _ => ?_) (fun q => absurd trivial q)
      refine reti_ok X hr hlk (bI_n true) (dk rfl) ⟨true, rfl, X2, fun _ => ⟨fun _ => ⟨G, hG, ?_⟩, fun z => absurd hx0 z⟩⟩ kl.1 kl.2
      have hz' : nI G.2.2.1 = nI 0 := Decidable.not_not.mp hz
      exact (nI_eq (by omega) (by omega)).mp hz'
variable {o S A : Nat} {sl : List (List Nat)} {an : List (List (List Nat))} {a r kn th : Int32}
set_option maxHeartbeats 4000000 in
theorem c_can (h : AH) (M : MD h o S A sl an a r kn th) (x1 x2 x3 : Int32) : CT la D cA B0 pa yX10_can cX10_can 4 (some .boolean) (rmD 86 8422 97121) [.ref o, .int x1, .int x2, .int x3] h (booR o S A kn h) := by
  refine CT_of (by decide +kernel) (Nat.le_of_ble_eq_true rfl) ?_
  intro p e s m args below meth c X E hr hlk hnm
  have dk : ∀ {pc : Nat} {q : Instr × Nat}, lkd DX10_can pc = some q → decode cX10_can pc = .ok q := lkd_ok DX10_can_ok
  have mid2 : ∀ t1 t2 : Bool, (t1 = false → inN 6 x1 ∧ inN 6 x2) → (t2 = false → inN 2 x3) → WR p la e (rmD 86 8422 97121) s m args below meth c D cA B0 4 (booR o S A kn h) 34 (lv_args 0 [.ref o, .int x1, .int x2, .int x3]) [.int (bI t2), .int (bI t1), .ref o] h 0 0 := by
    intro t1 t2 ht1 ht2
    refine thr2_ok X E M ⟨Nat.le_of_ble_eq_true rfl, Nat.le_of_ble_eq_true rfl⟩ ⟨Nat.le_of_ble_eq_true rfl, Nat.le_of_ble_eq_true rfl⟩ (Nat.le_of_ble_eq_true rfl) (dk rfl) (fun h1 a1 r1 th1 M1 F1 => ?_)
    cases hb : (t1 || t2) with
    | true =>
      refine br_ok X (dk rfl) rfl (show ((37 : Nat) : Int) + 26 = ((63 : Nat) : Int) from rfl) (fun _ => ?_) (fun q => absurd bI_t q)
      refine fst1_ok X (dk rfl) rfl ?_
      exact reti_ok X hr hlk (bI_n false) (dk rfl) ⟨⟨false, rfl⟩, ⟨_, _, _, _, _, M1⟩, F1⟩ (Nat.zero_le _) (Nat.zero_le _)
    | false =>
      obtain ⟨hb1, hb2⟩ := Bool.or_eq_false_iff.mp hb
      obtain ⟨⟨j1, hj1, rfl⟩, ⟨j2, hj2, rfl⟩⟩ := ht1 hb1
      obtain ⟨j3, hj3, rfl⟩ := ht2 hb2
      obtain ⟨ss, s1, s2, s3⟩ := M1.slot
      obtain ⟨as, a1, a2, a3⟩ := M1.ans
      obtain ⟨b1, y1, e1, f1, g1, w1, n1⟩ := s3 j1 hj1
      have ly1 : (y1.map vI).length = y1.length := List.length_map _
      obtain ⟨b2, y2, e2, f2, g2, w2, n2⟩ := s3 j2 hj2
      have ly2 : (y2.map vI).length = y2.length := List.length_map _
      refine br_ok X (dk rfl) rfl (show ((37 : Nat) : Int) + 26 = ((63 : Nat) : Int) from rfl) (fun q => absurd q bI_f) (fun _ => ?_)
      repeat refine fst1_ok X (dk rfl) rfl ?_
      refine getf_ok X flX10_11 (dk rfl) M1.obj rfl ?_
      refine fst1_ok X (dk rfl) rfl ?_
      refine ldr_ok X (dk rfl) s2 e1 (by omega) ?_
      repeat refine fst1_ok X (dk rfl) rfl ?_
      refine getf_ok X flX10_11 (dk rfl) M1.obj rfl ?_
      refine fst1_ok X (dk rfl) rfl ?_
      refine ldr_ok X (dk rfl) s2 e2 (by omega) ?_
      repeat refine fst1_ok X (dk rfl) rfl ?_
      refine callS_ok (av := [.ref b1, .ref b2, .int (nI j3)]) (r := []) X E (c_canBe h1 (nI j3) (C := 8422) (N := 97121) ⟨Nat.le_of_ble_eq_true rfl, Nat.le_of_ble_eq_true rfl⟩ (fun _ G hG => go_cap ⟨w1, n1⟩ ⟨w2, n2⟩ hG) g1 g2 ⟨w1, n1⟩ ⟨w2, n2⟩) lkX10_canBe mlX10_153 lsX10_canBe ⟨Nat.le_of_ble_eq_true rfl, Nat.le_of_ble_eq_true rfl⟩ ⟨Nat.le_of_ble_eq_true rfl, Nat.le_of_ble_eq_true rfl⟩ (Nat.le_of_ble_eq_true rfl) (dk rfl) ?_
      rintro v h2 ⟨bb, rfl, XQ, -⟩
      cases bb with
      | false =>
        refine br_ok X (dk rfl) rfl (show ((56 : Nat) : Int) + 7 = ((63 : Nat) : Int) from rfl) (fun _ => ?_) (fun q => absurd bI_f' q)
        refine fst1_ok X (dk rfl) rfl ?_
        exact reti_ok X hr hlk (bI_n false) (dk rfl) ⟨⟨false, rfl⟩, ⟨_, _, _, _, _, M1.ext XQ⟩, F1.trans (Fr.ext XQ)⟩ (Nat.le_of_ble_eq_true rfl) (Nat.le_of_ble_eq_true rfl)
      | true =>
        refine br_ok X (dk rfl) rfl (show ((56 : Nat) : Int) + 7 = ((63 : Nat) : Int) from rfl) (fun q => absurd q bI_t) (fun _ => ?_)
        refine fst1_ok X (dk rfl) rfl ?_
        refine br_ok X (dk rfl) rfl (show ((60 : Nat) : Int) + 4 = ((64 : Nat) : Int) from rfl) (fun _ => ?_) (fun q => absurd trivial q)
        exact reti_ok X hr hlk (bI_n true) (dk rfl) ⟨⟨true, rfl⟩, ⟨_, _, _, _, _, M1.ext XQ⟩, F1.trans (Fr.ext XQ)⟩ (Nat.le_of_ble_eq_true rfl) (Nat.le_of_ble_eq_true rfl)
  have mid1 : ∀ t1 : Bool, (t1 = false → inN 6 x1 ∧ inN 6 x2) → WR p la e (rmD 86 8422 97121) s m args below meth c D cA B0 4 (booR o S A kn h) 20 (lv_args 0 [.ref o, .int x1, .int x2, .int x3]) [.int (bI t1), .ref o] h 0 0 := by
    intro t1 ht1
    have mid2 := fun t2 => mid2 t1 t2 ht1
    iterate 1 refine fst1_ok X (dk rfl) rfl ?_
    have mid2T : ∀ l : List (Nat × Value), l = (lv_args 0 [.ref o, .int x1, .int x2, .int x3]) → WR p la e (rmD 86 8422 97121) s m args below meth c D cA B0 4 (booR o S A kn h) 29 l [.int (bI t1), .ref o] h 0 0 := by
      intro l hl
      rw [hl]
      refine fst1_ok X (dk rfl) rfl ?_
      refine br_ok X (dk rfl) rfl (show ((30 : Nat) : Int) + 4 = ((34 : Nat) : Int) from rfl) (fun _ => ?_) (fun q => absurd trivial q)
      exact mid2 true (fun z => by cases z)
    refine br_ok X (dk rfl) rfl (show ((21 : Nat) : Int) + 8 = ((29 : Nat) : Int) from rfl) (fun _ => mid2T _ rfl) (fun c1 => ?_)
    iterate 2 refine fst1_ok X (dk rfl) rfl ?_
    refine br_ok X (dk rfl) rfl (show ((26 : Nat) : Int) + 7 = ((33 : Nat) : Int) from rfl) (fun c2 => ?_) (fun _ => mid2T _ rfl)
    refine fst1_ok X (dk rfl) rfl ?_
    exact mid2 false (fun _ => inN_le (K := 1) (by omega) c1 (by rw [show nI 1 = Int32.ofInt 1 by decide +kernel]; exact c2))
  iterate 2 refine fst1_ok X (dk rfl) rfl ?_
  refine isSlot_ok X E mlX10_95 ⟨Nat.le_of_ble_eq_true rfl, Nat.le_of_ble_eq_true rfl⟩ ⟨Nat.le_of_ble_eq_true rfl, Nat.le_of_ble_eq_true rfl⟩ (Nat.le_of_ble_eq_true rfl) (dk rfl) (fun mid1b0 mid1h0 => ?_)
  cases mid1b0 with
  | false =>
    refine br_ok X (dk rfl) rfl (show ((5 : Nat) : Int) + 10 = ((15 : Nat) : Int) from rfl) (fun _ => ?_) (fun q => absurd bI_f' q)
    refine fst1_ok X (dk rfl) rfl ?_
    refine br_ok X (dk rfl) rfl (show ((16 : Nat) : Int) + 4 = ((20 : Nat) : Int) from rfl) (fun _ => ?_) (fun q => absurd trivial q)
    exact mid1 true (fun z => by cases z)
  | true =>
    refine br_ok X (dk rfl) rfl (show ((5 : Nat) : Int) + 10 = ((15 : Nat) : Int) from rfl) (fun q => absurd q bI_t) (fun _ => ?_)
    iterate 1 refine fst1_ok X (dk rfl) rfl ?_
    refine isSlot_ok X E mlX10_95 ⟨Nat.le_of_ble_eq_true rfl, Nat.le_of_ble_eq_true rfl⟩ ⟨Nat.le_of_ble_eq_true rfl, Nat.le_of_ble_eq_true rfl⟩ (Nat.le_of_ble_eq_true rfl) (dk rfl) (fun mid1b1 mid1h1 => ?_)
    cases mid1b1 with
    | false =>
      refine br_ok X (dk rfl) rfl (show ((12 : Nat) : Int) + 7 = ((19 : Nat) : Int) from rfl) (fun q => absurd q bI_f) (fun _ => ?_)
      refine fst1_ok X (dk rfl) rfl ?_
      refine br_ok X (dk rfl) rfl (show ((16 : Nat) : Int) + 4 = ((20 : Nat) : Int) from rfl) (fun _ => ?_) (fun q => absurd trivial q)
      exact mid1 true (fun z => by cases z)
    | true =>
      refine br_ok X (dk rfl) rfl (show ((12 : Nat) : Int) + 7 = ((19 : Nat) : Int) from rfl) (fun _ => ?_) (fun q => absurd bI_t q)
      refine fst1_ok X (dk rfl) rfl ?_
      exact mid1 false (fun _ => ⟨mid1h0 rfl, mid1h1 rfl⟩)
end M79
