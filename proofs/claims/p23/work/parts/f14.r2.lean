/-! the reference's questions, exactly, further (printed by wip/q/genR2.py) -/
theorem endL_name {x : Nat} {r : List Nat} (hx : x < 10) (h : endL 1 (x :: r) = some (x :: r).length) : r = [] := by
  have e : endL 1 (x :: r) = (endL (0 + pF x) r).map (· + 1) := rfl
  have p0 : pF x = 0 := if_pos hx
  have e0 : endL (0 + 0) r = some 0 := by cases r <;> rfl
  rw [e, p0, e0] at h
  have h2 : (some 1 : Option Nat) = some (r.length + 1) := h
  have : r.length = 0 := by
    have := Option.some.inj h2
    omega
  exact List.length_eq_zero_iff.mp this
/-- an answer's name, by its first letter -/
theorem met_hd {z : List Nat} {x : Nat} (t : TW z) (hx : z[0]? = some x) : (10 ≤ x → ∀ m, (if z.length = 1 then m ||| namesN z else m) = m) ∧ (x < 10 → ∀ m, (if z.length = 1 then m ||| namesN z else m) = m ||| 2 ^ x) := by
  cases z with
  | nil => cases hx
  | cons y r =>
    have hy : y = x := by simpa using hx
    subst hy
    refine ⟨fun h m => ?_, fun h m => ?_⟩
    · split
      · rename_i l1
        have : r = [] := List.length_eq_zero_iff.mp (by rw [List.length_cons] at l1; omega)
        subst this
        have e : namesN [y] = 0 := by
          show (if y < 10 then 0 ||| 2 ^ y else 0) = 0
          exact if_neg (by omega)
        rw [e, Nat.or_zero]
      · rfl
    · have : r = [] := endL_name h t.1
      subst this
      rw [if_pos (show [y].length = 1 from rfl)]
      have e : namesN [y] = 2 ^ y := by
        show (if y < 10 then 0 ||| 2 ^ y else 0) = 2 ^ y
        rw [if_pos h, Nat.zero_or]
      rw [e]
theorem nI_or0 (m : Nat) : nI m ||| Int32.ofInt 0 = nI m := by rw [nI_0', nI_or, Nat.or_zero]
def szN (sl : List (List Nat)) : Nat → Nat
  | 0 => 0
  | k + 1 => szN sl k + (sl.getD k []).length
def mvN (an : List (List (List Nat))) : Nat → Int32
  | 0 => 0
  | k + 1 => mvN an k + bcF (nI (movedN (an.getD k []) 8))
def hsN (kn : Int32) (q : Nat) (st : ST) : Int32 := if q = 0 then st.2.2.1 else if q = 1 then st.2.2.2 else if q = 2 then kn else if q = 3 then nI (szN st.1 6) else mvN st.2.1 3
def aHouse (kn x1 : Int32) (st : ST) : RS := if okI 5 x1 then ((0, hsN kn (xI x1) st), st) else ((1, 0), st)
theorem hs_told {kn : Int32} {j : Nat} {st : ST} (c1 : ¬ nI j = 0) (c2 : ¬ nI j = Int32.ofInt 1) (c3 : ¬ nI j = Int32.ofInt 2) (hj : j < 5) : hsN kn j st = if nI j = Int32.ofInt 3 then nI (szN st.1 6) else mvN st.2.1 3 := by
  have h0 : j ≠ 0 := fun z => c1 (by rw [z]; decide)
  have h1 : j ≠ 1 := fun z => c2 (by rw [z]; decide)
  have h2 : j ≠ 2 := fun z => c3 (by rw [z]; decide)
  have h : j = 3 ∨ j = 4 := by omega
  rcases h with rfl | rfl
  · rw [if_pos (by decide)]; rfl
  · rw [if_neg (by decide)]; rfl
section R14
variable {la : Launch} {D : va_G} {cA : Nat → ClassId} {B0 pa : Nat} {o S A : Nat} {sl : List (List Nat)} {an : List (List (List Nat))} {da dr kn th : Int32}
set_option maxHeartbeats 4000000 in
theorem RF.x_steps (h : AH) (M : MD h o S A sl an da dr kn th) (x1 x2 : Int32) {C N : Nat} (HB : GoB 40 C N) : CT la D cA B0 pa yX10_steps cX10_steps 3 (some .int) (rmD (2 * 40 + 5) (2 + C) (11 + N)) [.ref o, .int x1, .int x2] h (refR o S A kn (aSteps x1 x2 (sl, an, da, dr)) h) := by
  refine CT_of (by decide +kernel) (Nat.le_of_ble_eq_true rfl) ?_
  intro p e s m args below meth c X E hr hlk hnm
  have dk : ∀ {pc : Nat} {q : Instr × Nat}, lkd DX10_steps pc = some q → decode cX10_steps pc = .ok q := lkd_ok DX10_steps_ok
  have mid1 : ∀ t1 : Bool, (t1 = false → inN 6 x1 ∧ inN 6 x2) → (t1 = true → ¬ (inN 6 x1 ∧ inN 6 x2)) → WR p la e (rmD (2 * 40 + 5) (2 + C) (11 + N)) s m args below meth c D cA B0 3 (refR o S A kn (aSteps x1 x2 (sl, an, da, dr)) h) 20 (lv_args 0 [.ref o, .int x1, .int x2]) [.int (bI t1), .ref o] h 0 0 := by
    intro t1 ht1 hn1
    refine thr1_ok X E M ⟨by show 2 ≤ 2 * 40 + 5; omega, by show 61 ≤ 40 * (2 * 40 + 5); omega⟩ ⟨Nat.zero_le _, Nat.zero_le _⟩ (Nat.le_of_ble_eq_true rfl) (dk rfl) (fun h1 M1 F1 => ?_)
    cases hb : t1 with
    | true =>
      have hT1 : ¬ (inN 6 x1 ∧ inN 6 x2) → aSteps x1 x2 (sl, an, da, dr) = ((1, 0), (sl, an, da, dr)) := (fun hn => by
          unfold aSteps
          by_cases q0 : okI 6 x1 = true
          rotate_left
          · exact if_neg q0
          rw [if_pos q0]
          by_cases q1 : okI 6 x2 = true
          rotate_left
          · exact if_neg q1
          rw [if_pos q1]
          exact absurd ⟨okI_in (by decide) q0, okI_in (by decide) q1⟩ hn)
      have hE : aSteps x1 x2 (sl, an, da, dr) = ((thI t1 false, 0), (sl, an, da, dr)) := by
        rw [hb]
        exact hT1 (hn1 hb)
      refine br_ok X (dk rfl) rfl (show ((23 : Nat) : Int) + 7 = ((30 : Nat) : Int) from rfl) (fun q => absurd q bI_t) (fun _ => ?_)
      refine fst1_ok X (dk rfl) rfl ?_
      refine br_ok X (dk rfl) rfl (show ((27 : Nat) : Int) + 25 = ((52 : Nat) : Int) from rfl) (fun _ => ?_) (fun q => absurd trivial q)
      exact reti_ok X hr hlk rfl (dk rfl) (refR_thr M1 F1 hE (by decide +kernel)) (Nat.zero_le _) (Nat.zero_le _)
    | false =>
      refine br_ok X (dk rfl) rfl (show ((23 : Nat) : Int) + 7 = ((30 : Nat) : Int) from rfl) (fun _ => ?_) (fun q => absurd bI_f' q)
      obtain ⟨⟨j1, hj1, rfl⟩, ⟨j2, hj2, rfl⟩⟩ := ht1 hb
      have M1 : MD h1 o S A sl an da dr kn (nI 0) := by
        rw [hb] at M1
        exact M1
      obtain ⟨ss, s1, s2, s3⟩ := M1.slot
      obtain ⟨as, a1, a2, a3⟩ := M1.ans
      obtain ⟨b1, y1, e1, f1, g1, w1, n1⟩ := s3 j1 hj1
      have ly1 : (y1.map vI).length = y1.length := List.length_map _
      obtain ⟨b2, y2, e2, f2, g2, w2, n2⟩ := s3 j2 hj2
      have ly2 : (y2.map vI).length = y2.length := List.length_map _
      obtain ⟨G, hG, hGc, hGn⟩ := HB y1 y2 ⟨w1, n1⟩ ⟨w2, n2⟩
      refine new_ok X nc10_157 (dk rfl) (by show 0 + 1 ≤ 2 + C; omega) (by show 0 + 3 ≤ 11 + N; omega) (fun u hu hBu => ?_)
      have XU := Ext.new hu ((11, [Value.null, .int 0, .int 0]) : AC)
      repeat refine fst1_ok X (dk rfl) rfl ?_
      refine getf_ok X flX10_11 (dk rfl) (XU _ _ M1.obj) rfl ?_
      refine fst1_ok X (dk rfl) rfl ?_
      refine ldr_ok X (dk rfl) (XU _ _ s2) e1 (by omega) ?_
      repeat refine fst1_ok X (dk rfl) rfl ?_
      refine getf_ok X flX10_11 (dk rfl) (XU _ _ M1.obj) rfl ?_
      refine fst1_ok X (dk rfl) rfl ?_
      refine ldr_ok X (dk rfl) (XU _ _ s2) e2 (by omega) ?_
      refine callI_ok (av := [.ref b1, .ref b2]) (r := [.ref u]) X E (c_stepsInit _ (hup_self _ _ _) (XU _ _ g1) (XU _ _ g2) ⟨w1, n1⟩ ⟨w2, n2⟩ hG) lkX9_init mlX10_159 lmX9_init rfl ⟨by show 2 * 40 + 4 + 1 ≤ 2 * 40 + 5; omega, by show 8 + (3 + 11) + 40 * (2 * 40 + 4) ≤ 40 * (2 * 40 + 5); omega⟩ ⟨by show 0 + 1 + (1 + G.2.2.2.1) ≤ 2 + C; omega, by show 0 + 3 + (8 + G.2.2.2.2) ≤ 11 + N; omega⟩ (Nat.le_of_ble_eq_true rfl) (dk rfl) ?_
      rintro v h2 ⟨rfl, ⟨St, hSt, M2⟩, F2⟩
      have X2 : Ext h1 h2 := fun b c e => F2 b c (fun z => by rw [z, hu] at e; cases e) (XU _ _ e)
      refine getfN_ok X E.2.1 fnX10_211 (dk rfl) M2.1 rfl ?_
      exact reti_ok X hr hlk rfl (dk rfl) (refR_ok (M1.ext X2) (F1.trans (Fr.ext X2)) (by unfold aSteps; dsimp only; rw [if_pos (okI_t hj1 (by decide)), if_pos (okI_t hj2 (by decide)), xI_n (by omega), xI_n (by omega), getD_of f1, getD_of f2]; rw [stN_of hG]; first | done | rfl)) (by show 0 + 1 + (1 + G.2.2.2.1) ≤ 2 + C; omega) (by show 0 + 3 + (8 + G.2.2.2.2) ≤ 11 + N; omega)
  iterate 2 refine fst1_ok X (dk rfl) rfl ?_
  refine isSlot_ok X E mlX10_95 ⟨by show 1 ≤ 2 * 40 + 5; omega, by show 20 ≤ 40 * (2 * 40 + 5); omega⟩ ⟨Nat.zero_le _, Nat.zero_le _⟩ (Nat.le_of_ble_eq_true rfl) (dk rfl) (fun mid1b0 mid1h0 mid1n0 => ?_)
  cases mid1b0 with
  | false =>
    refine br_ok X (dk rfl) rfl (show ((5 : Nat) : Int) + 10 = ((15 : Nat) : Int) from rfl) (fun _ => ?_) (fun q => absurd bI_f' q)
    refine fst1_ok X (dk rfl) rfl ?_
    refine br_ok X (dk rfl) rfl (show ((16 : Nat) : Int) + 4 = ((20 : Nat) : Int) from rfl) (fun _ => ?_) (fun q => absurd trivial q)
    exact mid1 true (fun z => by cases z) (fun _ hh => absurd (hh.1) (mid1n0 rfl))
  | true =>
    refine br_ok X (dk rfl) rfl (show ((5 : Nat) : Int) + 10 = ((15 : Nat) : Int) from rfl) (fun q => absurd q bI_t) (fun _ => ?_)
    iterate 1 refine fst1_ok X (dk rfl) rfl ?_
    refine isSlot_ok X E mlX10_95 ⟨by show 1 ≤ 2 * 40 + 5; omega, by show 20 ≤ 40 * (2 * 40 + 5); omega⟩ ⟨Nat.zero_le _, Nat.zero_le _⟩ (Nat.le_of_ble_eq_true rfl) (dk rfl) (fun mid1b1 mid1h1 mid1n1 => ?_)
    cases mid1b1 with
    | false =>
      refine br_ok X (dk rfl) rfl (show ((12 : Nat) : Int) + 7 = ((19 : Nat) : Int) from rfl) (fun q => absurd q bI_f) (fun _ => ?_)
      refine fst1_ok X (dk rfl) rfl ?_
      refine br_ok X (dk rfl) rfl (show ((16 : Nat) : Int) + 4 = ((20 : Nat) : Int) from rfl) (fun _ => ?_) (fun q => absurd trivial q)
      exact mid1 true (fun z => by cases z) (fun _ hh => absurd (hh.2) (mid1n1 rfl))
    | true =>
      refine br_ok X (dk rfl) rfl (show ((12 : Nat) : Int) + 7 = ((19 : Nat) : Int) from rfl) (fun _ => ?_) (fun q => absurd bI_t q)
      refine fst1_ok X (dk rfl) rfl ?_
      exact mid1 false (fun _ => ⟨mid1h0 rfl, mid1h1 rfl⟩) (fun z => by cases z)
set_option maxHeartbeats 4000000 in
theorem RF.x_why (h : AH) (M : MD h o S A sl an da dr kn th) (x1 x2 : Int32) {C N : Nat} (HB : GoB 40 C N) : CT la D cA B0 pa yX10_why cX10_why 3 (some .int) (rmD (2 * 40 + 5) (2 + C) (11 + N)) [.ref o, .int x1, .int x2] h (refR o S A kn (aWhy x1 x2 (sl, an, da, dr)) h) := by
  refine CT_of (by decide +kernel) (Nat.le_of_ble_eq_true rfl) ?_
  intro p e s m args below meth c X E hr hlk hnm
  have dk : ∀ {pc : Nat} {q : Instr × Nat}, lkd DX10_why pc = some q → decode cX10_why pc = .ok q := lkd_ok DX10_why_ok
  have mid1 : ∀ t1 : Bool, (t1 = false → inN 6 x1 ∧ inN 6 x2) → (t1 = true → ¬ (inN 6 x1 ∧ inN 6 x2)) → WR p la e (rmD (2 * 40 + 5) (2 + C) (11 + N)) s m args below meth c D cA B0 3 (refR o S A kn (aWhy x1 x2 (sl, an, da, dr)) h) 20 (lv_args 0 [.ref o, .int x1, .int x2]) [.int (bI t1), .ref o] h 0 0 := by
    intro t1 ht1 hn1
    refine thr1_ok X E M ⟨by show 2 ≤ 2 * 40 + 5; omega, by show 61 ≤ 40 * (2 * 40 + 5); omega⟩ ⟨Nat.zero_le _, Nat.zero_le _⟩ (Nat.le_of_ble_eq_true rfl) (dk rfl) (fun h1 M1 F1 => ?_)
    cases hb : t1 with
    | true =>
      have hT1 : ¬ (inN 6 x1 ∧ inN 6 x2) → aWhy x1 x2 (sl, an, da, dr) = ((1, 0), (sl, an, da, dr)) := (fun hn => by
          unfold aWhy
          by_cases q0 : okI 6 x1 = true
          rotate_left
          · exact if_neg q0
          rw [if_pos q0]
          by_cases q1 : okI 6 x2 = true
          rotate_left
          · exact if_neg q1
          rw [if_pos q1]
          exact absurd ⟨okI_in (by decide) q0, okI_in (by decide) q1⟩ hn)
      have hE : aWhy x1 x2 (sl, an, da, dr) = ((thI t1 false, 0), (sl, an, da, dr)) := by
        rw [hb]
        exact hT1 (hn1 hb)
      refine br_ok X (dk rfl) rfl (show ((23 : Nat) : Int) + 7 = ((30 : Nat) : Int) from rfl) (fun q => absurd q bI_t) (fun _ => ?_)
      refine fst1_ok X (dk rfl) rfl ?_
      refine br_ok X (dk rfl) rfl (show ((27 : Nat) : Int) + 25 = ((52 : Nat) : Int) from rfl) (fun _ => ?_) (fun q => absurd trivial q)
      exact reti_ok X hr hlk rfl (dk rfl) (refR_thr M1 F1 hE (by decide +kernel)) (Nat.zero_le _) (Nat.zero_le _)
    | false =>
      refine br_ok X (dk rfl) rfl (show ((23 : Nat) : Int) + 7 = ((30 : Nat) : Int) from rfl) (fun _ => ?_) (fun q => absurd bI_f' q)
      obtain ⟨⟨j1, hj1, rfl⟩, ⟨j2, hj2, rfl⟩⟩ := ht1 hb
      have M1 : MD h1 o S A sl an da dr kn (nI 0) := by
        rw [hb] at M1
        exact M1
      obtain ⟨ss, s1, s2, s3⟩ := M1.slot
      obtain ⟨as, a1, a2, a3⟩ := M1.ans
      obtain ⟨b1, y1, e1, f1, g1, w1, n1⟩ := s3 j1 hj1
      have ly1 : (y1.map vI).length = y1.length := List.length_map _
      obtain ⟨b2, y2, e2, f2, g2, w2, n2⟩ := s3 j2 hj2
      have ly2 : (y2.map vI).length = y2.length := List.length_map _
      obtain ⟨G, hG, hGc, hGn⟩ := HB y1 y2 ⟨w1, n1⟩ ⟨w2, n2⟩
      refine new_ok X nc10_157 (dk rfl) (by show 0 + 1 ≤ 2 + C; omega) (by show 0 + 3 ≤ 11 + N; omega) (fun u hu hBu => ?_)
      have XU := Ext.new hu ((11, [Value.null, .int 0, .int 0]) : AC)
      repeat refine fst1_ok X (dk rfl) rfl ?_
      refine getf_ok X flX10_11 (dk rfl) (XU _ _ M1.obj) rfl ?_
      refine fst1_ok X (dk rfl) rfl ?_
      refine ldr_ok X (dk rfl) (XU _ _ s2) e1 (by omega) ?_
      repeat refine fst1_ok X (dk rfl) rfl ?_
      refine getf_ok X flX10_11 (dk rfl) (XU _ _ M1.obj) rfl ?_
      refine fst1_ok X (dk rfl) rfl ?_
      refine ldr_ok X (dk rfl) (XU _ _ s2) e2 (by omega) ?_
      refine callI_ok (av := [.ref b1, .ref b2]) (r := [.ref u]) X E (c_stepsInit _ (hup_self _ _ _) (XU _ _ g1) (XU _ _ g2) ⟨w1, n1⟩ ⟨w2, n2⟩ hG) lkX9_init mlX10_159 lmX9_init rfl ⟨by show 2 * 40 + 4 + 1 ≤ 2 * 40 + 5; omega, by show 8 + (3 + 11) + 40 * (2 * 40 + 4) ≤ 40 * (2 * 40 + 5); omega⟩ ⟨by show 0 + 1 + (1 + G.2.2.2.1) ≤ 2 + C; omega, by show 0 + 3 + (8 + G.2.2.2.2) ≤ 11 + N; omega⟩ (Nat.le_of_ble_eq_true rfl) (dk rfl) ?_
      rintro v h2 ⟨rfl, ⟨St, hSt, M2⟩, F2⟩
      have X2 : Ext h1 h2 := fun b c e => F2 b c (fun z => by rw [z, hu] at e; cases e) (XU _ _ e)
      refine getfN_ok X E.2.1 fnX10_204 (dk rfl) M2.1 rfl ?_
      exact reti_ok X hr hlk rfl (dk rfl) (refR_ok (M1.ext X2) (F1.trans (Fr.ext X2)) (by unfold aWhy; dsimp only; rw [if_pos (okI_t hj1 (by decide)), if_pos (okI_t hj2 (by decide)), xI_n (by omega), xI_n (by omega), getD_of f1, getD_of f2]; rw [stN_of hG]; first | done | rfl)) (by show 0 + 1 + (1 + G.2.2.2.1) ≤ 2 + C; omega) (by show 0 + 3 + (8 + G.2.2.2.2) ≤ 11 + N; omega)
  iterate 2 refine fst1_ok X (dk rfl) rfl ?_
  refine isSlot_ok X E mlX10_95 ⟨by show 1 ≤ 2 * 40 + 5; omega, by show 20 ≤ 40 * (2 * 40 + 5); omega⟩ ⟨Nat.zero_le _, Nat.zero_le _⟩ (Nat.le_of_ble_eq_true rfl) (dk rfl) (fun mid1b0 mid1h0 mid1n0 => ?_)
  cases mid1b0 with
  | false =>
    refine br_ok X (dk rfl) rfl (show ((5 : Nat) : Int) + 10 = ((15 : Nat) : Int) from rfl) (fun _ => ?_) (fun q => absurd bI_f' q)
    refine fst1_ok X (dk rfl) rfl ?_
    refine br_ok X (dk rfl) rfl (show ((16 : Nat) : Int) + 4 = ((20 : Nat) : Int) from rfl) (fun _ => ?_) (fun q => absurd trivial q)
    exact mid1 true (fun z => by cases z) (fun _ hh => absurd (hh.1) (mid1n0 rfl))
  | true =>
    refine br_ok X (dk rfl) rfl (show ((5 : Nat) : Int) + 10 = ((15 : Nat) : Int) from rfl) (fun q => absurd q bI_t) (fun _ => ?_)
    iterate 1 refine fst1_ok X (dk rfl) rfl ?_
    refine isSlot_ok X E mlX10_95 ⟨by show 1 ≤ 2 * 40 + 5; omega, by show 20 ≤ 40 * (2 * 40 + 5); omega⟩ ⟨Nat.zero_le _, Nat.zero_le _⟩ (Nat.le_of_ble_eq_true rfl) (dk rfl) (fun mid1b1 mid1h1 mid1n1 => ?_)
    cases mid1b1 with
    | false =>
      refine br_ok X (dk rfl) rfl (show ((12 : Nat) : Int) + 7 = ((19 : Nat) : Int) from rfl) (fun q => absurd q bI_f) (fun _ => ?_)
      refine fst1_ok X (dk rfl) rfl ?_
      refine br_ok X (dk rfl) rfl (show ((16 : Nat) : Int) + 4 = ((20 : Nat) : Int) from rfl) (fun _ => ?_) (fun q => absurd trivial q)
      exact mid1 true (fun z => by cases z) (fun _ hh => absurd (hh.2) (mid1n1 rfl))
    | true =>
      refine br_ok X (dk rfl) rfl (show ((12 : Nat) : Int) + 7 = ((19 : Nat) : Int) from rfl) (fun _ => ?_) (fun q => absurd bI_t q)
      refine fst1_ok X (dk rfl) rfl ?_
      exact mid1 false (fun _ => ⟨mid1h0 rfl, mid1h1 rfl⟩) (fun z => by cases z)
set_option maxHeartbeats 4000000 in
theorem RF.x_is (h : AH) (M : MD h o S A sl an da dr kn th) (x1 x2 x3 : Int32) : CT la D cA B0 pa yX10_is cX10_is 4 (some .boolean) (rmD 4 25 48) [.ref o, .int x1, .int x2, .int x3] h (refR o S A kn (aIs x1 x2 x3 (sl, an, da, dr)) h) := by
  refine CT_of (by decide +kernel) (Nat.le_of_ble_eq_true rfl) ?_
  intro p e s m args below meth c X E hr hlk hnm
  have dk : ∀ {pc : Nat} {q : Instr × Nat}, lkd DX10_is pc = some q → decode cX10_is pc = .ok q := lkd_ok DX10_is_ok
  have mid2 : ∀ t1 t2 : Bool, (t1 = false → inN 6 x1 ∧ inN 6 x2) → (t1 = true → ¬ (inN 6 x1 ∧ inN 6 x2)) → (t2 = false → inN 3 x3) → (t2 = true → ¬ (inN 3 x3)) → WR p la e (rmD 4 25 48) s m args below meth c D cA B0 4 (refR o S A kn (aIs x1 x2 x3 (sl, an, da, dr)) h) 34 (lv_args 0 [.ref o, .int x1, .int x2, .int x3]) [.int (bI t2), .int (bI t1), .ref o] h 0 0 := by
    intro t1 t2 ht1 hn1 ht2 hn2
    refine thr2_ok X E M ⟨Nat.le_of_ble_eq_true rfl, Nat.le_of_ble_eq_true rfl⟩ ⟨Nat.le_of_ble_eq_true rfl, Nat.le_of_ble_eq_true rfl⟩ (Nat.le_of_ble_eq_true rfl) (dk rfl) (fun h1 M1 F1 => ?_)
    cases hb : (t1 || t2) with
    | true =>
      have hT1 : ¬ (inN 6 x1 ∧ inN 6 x2) → aIs x1 x2 x3 (sl, an, da, dr) = ((1, 0), (sl, an, da, dr)) := (fun hn => by
          unfold aIs
          by_cases q0 : okI 6 x1 = true
          rotate_left
          · exact if_neg q0
          rw [if_pos q0]
          by_cases q1 : okI 6 x2 = true
          rotate_left
          · exact if_neg q1
          rw [if_pos q1]
          exact absurd ⟨okI_in (by decide) q0, okI_in (by decide) q1⟩ hn)
      have hT2 : (inN 6 x1 ∧ inN 6 x2) → ¬ (inN 3 x3) → aIs x1 x2 x3 (sl, an, da, dr) = ((2, 0), (sl, an, da, dr)) := (fun hp hq => by
          unfold aIs
          rw [if_pos (okI_of (by decide) (hp.1)), if_pos (okI_of (by decide) (hp.2)), if_neg (by rw [okI_f hq]; decide)])
      have hE : aIs x1 x2 x3 (sl, an, da, dr) = ((thI t1 t2, 0), (sl, an, da, dr)) := by
        cases t1 with
        | true => exact hT1 (hn1 rfl)
        | false =>
          cases t2 with
          | true => exact hT2 (ht1 rfl) (hn2 rfl)
          | false => cases hb
      refine br_ok X (dk rfl) rfl (show ((37 : Nat) : Int) + 5 = ((42 : Nat) : Int) from rfl) (fun q => absurd q bI_t) (fun _ => ?_)
      refine fst1_ok X (dk rfl) rfl ?_
      exact reti_ok X hr hlk (bI_n false) (dk rfl) (refR_thr M1 F1 hE (by decide +kernel)) (Nat.zero_le _) (Nat.zero_le _)
    | false =>
      refine br_ok X (dk rfl) rfl (show ((37 : Nat) : Int) + 5 = ((42 : Nat) : Int) from rfl) (fun _ => ?_) (fun q => absurd bI_f' q)
      obtain ⟨hb1, hb2⟩ := Bool.or_eq_false_iff.mp hb
      obtain ⟨⟨j1, hj1, rfl⟩, ⟨j2, hj2, rfl⟩⟩ := ht1 hb1
      obtain ⟨j3, hj3, rfl⟩ := ht2 hb2
      have th0 : thI t1 t2 = 0 := by
        cases t1 with
        | true => cases hb
        | false =>
          cases t2 with
          | true => cases hb
          | false => rfl
      rw [th0] at M1
      obtain ⟨ss, s1, s2, s3⟩ := M1.slot
      obtain ⟨as, a1, a2, a3⟩ := M1.ans
      obtain ⟨b1, y1, e1, f1, g1, w1, n1⟩ := s3 j1 hj1
      have ly1 : (y1.map vI).length = y1.length := List.length_map _
      obtain ⟨b2, y2, e2, f2, g2, w2, n2⟩ := s3 j2 hj2
      have ly2 : (y2.map vI).length = y2.length := List.length_map _
      repeat refine fst1_ok X (dk rfl) rfl ?_
      refine br_ok X (dk rfl) rfl (show ((44 : Nat) : Int) + 27 = ((71 : Nat) : Int) from rfl) (fun c1 => ?_) (fun c1 => ?_)
      · repeat refine fst1_ok X (dk rfl) rfl ?_
        refine br_ok X (dk rfl) rfl (show ((72 : Nat) : Int) + 21 = ((93 : Nat) : Int) from rfl) (fun c2 => ?_) (fun c2 => ?_)
        · repeat refine fst1_ok X (dk rfl) rfl ?_
          refine getf_ok X flX10_11 (dk rfl) M1.obj rfl ?_
          refine fst1_ok X (dk rfl) rfl ?_
          refine ldr_ok X (dk rfl) s2 e1 (by omega) ?_
          refine callS_ok (av := [.ref b1]) (r := []) X E (c_plainOf h1 g1 w1.2 n1) lkX10_plainOf mlX10_131 lsX10_plainOf ⟨Nat.le_of_ble_eq_true rfl, Nat.le_of_ble_eq_true rfl⟩ ⟨Nat.le_of_ble_eq_true rfl, by show 0 + (8 + y1.length) ≤ 48; omega⟩ (Nat.le_of_ble_eq_true rfl) (dk rfl) ?_
          rintro v h2 ⟨q, rfl, hq, hBq, XQ, hQ⟩
          obtain ⟨tp1, lp1⟩ := w1.plain
          obtain ⟨tp2, lp2⟩ := w2.plain
          refine WS.widen (k' := 2) (n' := 24) (Nat.le_of_ble_eq_true rfl) (by show 0 + (8 + y1.length) ≤ 24; omega) ?_
          have M2 := M1.ext XQ
          repeat refine fst1_ok X (dk rfl) rfl ?_
          refine getf_ok X flX10_11 (dk rfl) M2.obj rfl ?_
          refine fst1_ok X (dk rfl) rfl ?_
          refine ldr_ok X (dk rfl) (XQ _ _ s2) e2 (by omega) ?_
          refine callS_ok (av := [.ref b2]) (r := [.ref q]) X E (c_plainOf h2 (XQ _ _ g2) w2.2 n2) lkX10_plainOf mlX10_131 lsX10_plainOf ⟨Nat.le_of_ble_eq_true rfl, Nat.le_of_ble_eq_true rfl⟩ ⟨Nat.le_of_ble_eq_true rfl, by show 24 + (8 + y2.length) ≤ 48; omega⟩ (Nat.le_of_ble_eq_true rfl) (dk rfl) ?_
          rintro v h3 ⟨q3, rfl, hq3, hBq3, XQ3, hQ3⟩
          refine WS.widen (k' := 4) (n' := 48) (Nat.le_of_ble_eq_true rfl) (by show 24 + (8 + y2.length) ≤ 48; omega) ?_
          have M3 := M2.ext XQ3
          refine callS_ok (av := [.ref q, .ref q3]) (r := []) X E (c_same h3 (XQ3 _ _ hQ) hQ3 (by omega) (by omega) tp1.lt tp2.lt) lkX10_same mlX10_54 lsX10_same ⟨Nat.le_of_ble_eq_true rfl, Nat.le_of_ble_eq_true rfl⟩ ⟨Nat.le_of_ble_eq_true rfl, Nat.le_of_ble_eq_true rfl⟩ (Nat.le_of_ble_eq_true rfl) (dk rfl) ?_
          rintro v h4 ⟨rfl, rfl⟩
          rw [ite_bI]
          exact reti_ok X hr hlk (bI_n _) (dk rfl) (refR_ok (M3) (F1.trans (Fr.ext (XQ.trans XQ3))) (by have q3 : j3 = 1 := (by have z2 : j3 ≠ 2 := (fun z => c1 (by rw [z, nI_2])); have z0 : j3 ≠ 0 := (fun z => c2 (by rw [z]; decide)); omega); have eb : isB j3 y1 y2 = decide (plainL y1 = plainL y2) := (by rw [q3, plainL_P w1.2, plainL_P w2.2]; rfl); unfold aIs; dsimp only; rw [if_pos (okI_t hj1 (by decide)), if_pos (okI_t hj2 (by decide)), if_pos (okI_t hj3 (by decide)), xI_n (by omega), xI_n (by omega), xI_n (by omega), getD_of f1, getD_of f2]; rw [eb]; first | done | rfl)) (Nat.le_of_ble_eq_true rfl) (Nat.le_of_ble_eq_true rfl)
        · repeat refine fst1_ok X (dk rfl) rfl ?_
          refine getf_ok X flX10_11 (dk rfl) M1.obj rfl ?_
          refine fst1_ok X (dk rfl) rfl ?_
          refine ldr_ok X (dk rfl) s2 e1 (by omega) ?_
          repeat refine fst1_ok X (dk rfl) rfl ?_
          refine getf_ok X flX10_11 (dk rfl) M1.obj rfl ?_
          refine fst1_ok X (dk rfl) rfl ?_
          refine ldr_ok X (dk rfl) s2 e2 (by omega) ?_
          refine callS_ok (av := [.ref b1, .ref b2]) (r := []) X E (c_same h1 g1 g2 (by omega) (by omega) w1.lt w2.lt) lkX10_same mlX10_54 lsX10_same ⟨Nat.le_of_ble_eq_true rfl, Nat.le_of_ble_eq_true rfl⟩ ⟨Nat.le_of_ble_eq_true rfl, Nat.le_of_ble_eq_true rfl⟩ (Nat.le_of_ble_eq_true rfl) (dk rfl) ?_
          rintro v h4 ⟨rfl, rfl⟩
          rw [ite_bI]
          refine br_ok X (dk rfl) rfl (show ((90 : Nat) : Int) + 24 = ((114 : Nat) : Int) from rfl) (fun _ => ?_) (fun q => absurd trivial q)
          exact reti_ok X hr hlk (bI_n _) (dk rfl) (refR_ok M1 (F1) (by have q3 : j3 = 0 := nI_at (b := 0) (by omega) (by decide) (by decide) (Decidable.not_not.mp c2); have eb : isB j3 y1 y2 = decide (y1 = y2) := (by rw [q3]; rfl); unfold aIs; dsimp only; rw [if_pos (okI_t hj1 (by decide)), if_pos (okI_t hj2 (by decide)), if_pos (okI_t hj3 (by decide)), xI_n (by omega), xI_n (by omega), xI_n (by omega), getD_of f1, getD_of f2]; rw [eb]; first | done | rfl)) (Nat.le_of_ble_eq_true rfl) (Nat.le_of_ble_eq_true rfl)
      · repeat refine fst1_ok X (dk rfl) rfl ?_
        refine getf_ok X flX10_11 (dk rfl) M1.obj rfl ?_
        refine fst1_ok X (dk rfl) rfl ?_
        refine ldr_ok X (dk rfl) s2 e2 (by omega) ?_
        repeat refine fst1_ok X (dk rfl) rfl ?_
        refine getf_ok X flX10_11 (dk rfl) M1.obj rfl ?_
        refine fst1_ok X (dk rfl) rfl ?_
        refine ldr_ok X (dk rfl) s2 e1 (by omega) ?_
        refine callS_ok (av := [.ref b2, .ref b1]) (r := []) X E (c_matched h1 g2 g1 w2.2 w1 n2 n1) lkX10_matched mlX10_169 lsX10_matched ⟨Nat.le_of_ble_eq_true rfl, Nat.le_of_ble_eq_true rfl⟩ ⟨Nat.le_of_ble_eq_true rfl, Nat.le_of_ble_eq_true rfl⟩ (Nat.le_of_ble_eq_true rfl) (dk rfl) ?_
        rintro v h2 ⟨hP, -⟩
        cases hm : matchL y2 y1 with
        | none =>
          rw [hm] at hP
          obtain ⟨rfl, XQ⟩ := hP
          refine br_ok X (dk rfl) rfl (show ((62 : Nat) : Int) + 7 = ((69 : Nat) : Int) from rfl) (fun _ => ?_) (fun q => absurd trivial q)
          refine fst1_ok X (dk rfl) rfl ?_
          exact reti_ok X hr hlk (bI_n false) (dk rfl) (refR_ok ((M1.ext XQ)) (F1.trans (Fr.ext XQ)) (by have q3 : j3 = 2 := nI_at (b := 2) (by omega) (by decide) nI_2 (Decidable.not_not.mp c1); have eb : isB j3 y1 y2 = (matchL y2 y1).isSome := (by rw [q3]; rfl); unfold aIs; dsimp only; rw [if_pos (okI_t hj1 (by decide)), if_pos (okI_t hj2 (by decide)), if_pos (okI_t hj3 (by decide)), xI_n (by omega), xI_n (by omega), xI_n (by omega), getD_of f1, getD_of f2]; rw [eb, hm]; first | done | rfl)) (Nat.le_of_ble_eq_true rfl) (Nat.le_of_ble_eq_true rfl)
        | some rows =>
          rw [hm] at hP
          obtain ⟨q, rfl, hq, hBq, XQ, nQ⟩ := hP
          refine br_ok X (dk rfl) rfl (show ((62 : Nat) : Int) + 7 = ((69 : Nat) : Int) from rfl) (fun q => absurd q (fun z => z)) (fun _ => ?_)
          refine fst1_ok X (dk rfl) rfl ?_
          refine br_ok X (dk rfl) rfl (show ((66 : Nat) : Int) + 4 = ((70 : Nat) : Int) from rfl) (fun _ => ?_) (fun q => absurd trivial q)
          exact reti_ok X hr hlk (bI_n true) (dk rfl) (refR_ok ((M1.ext XQ)) (F1.trans (Fr.ext XQ)) (by have q3 : j3 = 2 := nI_at (b := 2) (by omega) (by decide) nI_2 (Decidable.not_not.mp c1); have eb : isB j3 y1 y2 = (matchL y2 y1).isSome := (by rw [q3]; rfl); unfold aIs; dsimp only; rw [if_pos (okI_t hj1 (by decide)), if_pos (okI_t hj2 (by decide)), if_pos (okI_t hj3 (by decide)), xI_n (by omega), xI_n (by omega), xI_n (by omega), getD_of f1, getD_of f2]; rw [eb, hm]; first | done | rfl)) (Nat.le_of_ble_eq_true rfl) (Nat.le_of_ble_eq_true rfl)
  have mid1 : ∀ t1 : Bool, (t1 = false → inN 6 x1 ∧ inN 6 x2) → (t1 = true → ¬ (inN 6 x1 ∧ inN 6 x2)) → WR p la e (rmD 4 25 48) s m args below meth c D cA B0 4 (refR o S A kn (aIs x1 x2 x3 (sl, an, da, dr)) h) 20 (lv_args 0 [.ref o, .int x1, .int x2, .int x3]) [.int (bI t1), .ref o] h 0 0 := by
    intro t1 ht1 hn1
    have mid2 := fun t2 => mid2 t1 t2 ht1 hn1
    iterate 1 refine fst1_ok X (dk rfl) rfl ?_
    have mid2T : ¬ inN 3 x3 → ∀ l : List (Nat × Value), l = (lv_args 0 [.ref o, .int x1, .int x2, .int x3]) → WR p la e (rmD 4 25 48) s m args below meth c D cA B0 4 (refR o S A kn (aIs x1 x2 x3 (sl, an, da, dr)) h) 29 l [.int (bI t1), .ref o] h 0 0 := by
      intro hx l hl
      rw [hl]
      refine fst1_ok X (dk rfl) rfl ?_
      refine br_ok X (dk rfl) rfl (show ((30 : Nat) : Int) + 4 = ((34 : Nat) : Int) from rfl) (fun _ => ?_) (fun q => absurd trivial q)
      exact mid2 true (fun z => by cases z) (fun _ => hx)
    refine br_ok X (dk rfl) rfl (show ((21 : Nat) : Int) + 8 = ((29 : Nat) : Int) from rfl) (fun c0 => mid2T (fun z => inN_pos z (by decide) c0) _ rfl) (fun c1 => ?_)
    iterate 2 refine fst1_ok X (dk rfl) rfl ?_
    refine br_ok X (dk rfl) rfl (show ((26 : Nat) : Int) + 7 = ((33 : Nat) : Int) from rfl) (fun c2 => ?_) (fun c0 => mid2T (fun z => c0 (by rw [show Int32.ofInt 2 = nI 2 by decide +kernel]; exact inN_leN z (by decide))) _ rfl)
    refine fst1_ok X (dk rfl) rfl ?_
    exact mid2 false (fun _ => inN_le (K := 2) (by omega) c1 (by rw [show nI 2 = Int32.ofInt 2 by decide +kernel]; exact c2)) (fun z => by cases z)
  iterate 2 refine fst1_ok X (dk rfl) rfl ?_
  refine isSlot_ok X E mlX10_95 ⟨Nat.le_of_ble_eq_true rfl, Nat.le_of_ble_eq_true rfl⟩ ⟨Nat.le_of_ble_eq_true rfl, Nat.le_of_ble_eq_true rfl⟩ (Nat.le_of_ble_eq_true rfl) (dk rfl) (fun mid1b0 mid1h0 mid1n0 => ?_)
  cases mid1b0 with
  | false =>
    refine br_ok X (dk rfl) rfl (show ((5 : Nat) : Int) + 10 = ((15 : Nat) : Int) from rfl) (fun _ => ?_) (fun q => absurd bI_f' q)
    refine fst1_ok X (dk rfl) rfl ?_
    refine br_ok X (dk rfl) rfl (show ((16 : Nat) : Int) + 4 = ((20 : Nat) : Int) from rfl) (fun _ => ?_) (fun q => absurd trivial q)
    exact mid1 true (fun z => by cases z) (fun _ hh => absurd (hh.1) (mid1n0 rfl))
  | true =>
    refine br_ok X (dk rfl) rfl (show ((5 : Nat) : Int) + 10 = ((15 : Nat) : Int) from rfl) (fun q => absurd q bI_t) (fun _ => ?_)
    iterate 1 refine fst1_ok X (dk rfl) rfl ?_
    refine isSlot_ok X E mlX10_95 ⟨Nat.le_of_ble_eq_true rfl, Nat.le_of_ble_eq_true rfl⟩ ⟨Nat.le_of_ble_eq_true rfl, Nat.le_of_ble_eq_true rfl⟩ (Nat.le_of_ble_eq_true rfl) (dk rfl) (fun mid1b1 mid1h1 mid1n1 => ?_)
    cases mid1b1 with
    | false =>
      refine br_ok X (dk rfl) rfl (show ((12 : Nat) : Int) + 7 = ((19 : Nat) : Int) from rfl) (fun q => absurd q bI_f) (fun _ => ?_)
      refine fst1_ok X (dk rfl) rfl ?_
      refine br_ok X (dk rfl) rfl (show ((16 : Nat) : Int) + 4 = ((20 : Nat) : Int) from rfl) (fun _ => ?_) (fun q => absurd trivial q)
      exact mid1 true (fun z => by cases z) (fun _ hh => absurd (hh.2) (mid1n1 rfl))
    | true =>
      refine br_ok X (dk rfl) rfl (show ((12 : Nat) : Int) + 7 = ((19 : Nat) : Int) from rfl) (fun _ => ?_) (fun q => absurd bI_t q)
      refine fst1_ok X (dk rfl) rfl ?_
      exact mid1 false (fun _ => ⟨mid1h0 rfl, mid1h1 rfl⟩) (fun z => by cases z)
set_option maxHeartbeats 4000000 in
theorem RF.x_can (h : AH) (M : MD h o S A sl an da dr kn th) (x1 x2 x3 : Int32) : CT la D cA B0 pa yX10_can cX10_can 4 (some .boolean) (rmD 86 8422 97121) [.ref o, .int x1, .int x2, .int x3] h (refR o S A kn (aCan x1 x2 x3 (sl, an, da, dr)) h) := by
  refine CT_of (by decide +kernel) (Nat.le_of_ble_eq_true rfl) ?_
  intro p e s m args below meth c X E hr hlk hnm
  have dk : ∀ {pc : Nat} {q : Instr × Nat}, lkd DX10_can pc = some q → decode cX10_can pc = .ok q := lkd_ok DX10_can_ok
  have mid2 : ∀ t1 t2 : Bool, (t1 = false → inN 6 x1 ∧ inN 6 x2) → (t1 = true → ¬ (inN 6 x1 ∧ inN 6 x2)) → (t2 = false → inN 2 x3) → (t2 = true → ¬ (inN 2 x3)) → WR p la e (rmD 86 8422 97121) s m args below meth c D cA B0 4 (refR o S A kn (aCan x1 x2 x3 (sl, an, da, dr)) h) 34 (lv_args 0 [.ref o, .int x1, .int x2, .int x3]) [.int (bI t2), .int (bI t1), .ref o] h 0 0 := by
    intro t1 t2 ht1 hn1 ht2 hn2
    refine thr2_ok X E M ⟨Nat.le_of_ble_eq_true rfl, Nat.le_of_ble_eq_true rfl⟩ ⟨Nat.le_of_ble_eq_true rfl, Nat.le_of_ble_eq_true rfl⟩ (Nat.le_of_ble_eq_true rfl) (dk rfl) (fun h1 M1 F1 => ?_)
    cases hb : (t1 || t2) with
    | true =>
      have hT1 : ¬ (inN 6 x1 ∧ inN 6 x2) → aCan x1 x2 x3 (sl, an, da, dr) = ((1, 0), (sl, an, da, dr)) := (fun hn => by
          unfold aCan
          by_cases q0 : okI 6 x1 = true
          rotate_left
          · exact if_neg q0
          rw [if_pos q0]
          by_cases q1 : okI 6 x2 = true
          rotate_left
          · exact if_neg q1
          rw [if_pos q1]
          exact absurd ⟨okI_in (by decide) q0, okI_in (by decide) q1⟩ hn)
      have hT2 : (inN 6 x1 ∧ inN 6 x2) → ¬ (inN 2 x3) → aCan x1 x2 x3 (sl, an, da, dr) = ((2, 0), (sl, an, da, dr)) := (fun hp hq => by
          unfold aCan
          rw [if_pos (okI_of (by decide) (hp.1)), if_pos (okI_of (by decide) (hp.2)), if_neg (fun z => hq (how_in z))])
      have hE : aCan x1 x2 x3 (sl, an, da, dr) = ((thI t1 t2, 0), (sl, an, da, dr)) := by
        cases t1 with
        | true => exact hT1 (hn1 rfl)
        | false =>
          cases t2 with
          | true => exact hT2 (ht1 rfl) (hn2 rfl)
          | false => cases hb
      refine br_ok X (dk rfl) rfl (show ((37 : Nat) : Int) + 26 = ((63 : Nat) : Int) from rfl) (fun _ => ?_) (fun q => absurd bI_t q)
      refine fst1_ok X (dk rfl) rfl ?_
      exact reti_ok X hr hlk (bI_n false) (dk rfl) (refR_thr M1 F1 hE (by decide +kernel)) (Nat.zero_le _) (Nat.zero_le _)
    | false =>
      obtain ⟨hb1, hb2⟩ := Bool.or_eq_false_iff.mp hb
      obtain ⟨⟨j1, hj1, rfl⟩, ⟨j2, hj2, rfl⟩⟩ := ht1 hb1
      obtain ⟨j3, hj3, rfl⟩ := ht2 hb2
      have th0 : thI t1 t2 = 0 := by
        cases t1 with
        | true => cases hb
        | false =>
          cases t2 with
          | true => cases hb
          | false => rfl
      rw [th0] at M1
      obtain ⟨ss, s1, s2, s3⟩ := M1.slot
      obtain ⟨as, a1, a2, a3⟩ := M1.ans
      obtain ⟨b1, y1, e1, f1, g1, w1, n1⟩ := s3 j1 hj1
      have ly1 : (y1.map vI).length = y1.length := List.length_map _
      obtain ⟨b2, y2, e2, f2, g2, w2, n2⟩ := s3 j2 hj2
      have ly2 : (y2.map vI).length = y2.length := List.length_map _
      refine br_ok X (dk rfl) rfl (show ((37 : Nat) : Int) + 26 = ((63 : Nat) : Int) from rfl) (fun q => absurd q bI_f) (fun _ => ?_)
      repeat refine fst1_ok X (dk rfl) rfl ?_
      refine getf_ok X flX10_11 (dk rfl) M1.obj rfl ?_
      refine fst1_ok X (dk rfl) rfl ?_
      refine ldr_ok X (dk rfl) s2 e1 (by omega) ?_
      repeat refine fst1_ok X (dk rfl) rfl ?_
      refine getf_ok X flX10_11 (dk rfl) M1.obj rfl ?_
      refine fst1_ok X (dk rfl) rfl ?_
      refine ldr_ok X (dk rfl) s2 e2 (by omega) ?_
      repeat refine fst1_ok X (dk rfl) rfl ?_
      refine callS_ok (av := [.ref b1, .ref b2, .int (nI j3)]) (r := []) X E (c_canBe h1 (nI j3) (C := 8422) (N := 97121) ⟨Nat.le_of_ble_eq_true rfl, Nat.le_of_ble_eq_true rfl⟩ (fun _ G hG => go_cap ⟨w1, n1⟩ ⟨w2, n2⟩ hG) g1 g2 ⟨w1, n1⟩ ⟨w2, n2⟩) lkX10_canBe mlX10_153 lsX10_canBe ⟨Nat.le_of_ble_eq_true rfl, Nat.le_of_ble_eq_true rfl⟩ ⟨Nat.le_of_ble_eq_true rfl, Nat.le_of_ble_eq_true rfl⟩ (Nat.le_of_ble_eq_true rfl) (dk rfl) ?_
      rintro v h2 ⟨bb, rfl, XQ, -, hex⟩
      cases bb with
      | false =>
        refine br_ok X (dk rfl) rfl (show ((56 : Nat) : Int) + 7 = ((63 : Nat) : Int) from rfl) (fun _ => ?_) (fun q => absurd bI_f' q)
        refine fst1_ok X (dk rfl) rfl ?_
        exact reti_ok X hr hlk (bI_n false) (dk rfl) (refR_ok (M1.ext XQ) (F1.trans (Fr.ext XQ)) (by unfold aCan; dsimp only; rw [if_pos (okI_t hj1 (by decide)), if_pos (okI_t hj2 (by decide)), if_pos (in_how hj3), xI_n (by omega), xI_n (by omega), getD_of f1, getD_of f2]; rw [canB_of hex]; first | done | rfl)) (Nat.le_of_ble_eq_true rfl) (Nat.le_of_ble_eq_true rfl)
      | true =>
        refine br_ok X (dk rfl) rfl (show ((56 : Nat) : Int) + 7 = ((63 : Nat) : Int) from rfl) (fun q => absurd q bI_t) (fun _ => ?_)
        refine fst1_ok X (dk rfl) rfl ?_
        refine br_ok X (dk rfl) rfl (show ((60 : Nat) : Int) + 4 = ((64 : Nat) : Int) from rfl) (fun _ => ?_) (fun q => absurd trivial q)
        exact reti_ok X hr hlk (bI_n true) (dk rfl) (refR_ok (M1.ext XQ) (F1.trans (Fr.ext XQ)) (by unfold aCan; dsimp only; rw [if_pos (okI_t hj1 (by decide)), if_pos (okI_t hj2 (by decide)), if_pos (in_how hj3), xI_n (by omega), xI_n (by omega), getD_of f1, getD_of f2]; rw [canB_of hex]; first | done | rfl)) (Nat.le_of_ble_eq_true rfl) (Nat.le_of_ble_eq_true rfl)
  have mid1 : ∀ t1 : Bool, (t1 = false → inN 6 x1 ∧ inN 6 x2) → (t1 = true → ¬ (inN 6 x1 ∧ inN 6 x2)) → WR p la e (rmD 86 8422 97121) s m args below meth c D cA B0 4 (refR o S A kn (aCan x1 x2 x3 (sl, an, da, dr)) h) 20 (lv_args 0 [.ref o, .int x1, .int x2, .int x3]) [.int (bI t1), .ref o] h 0 0 := by
    intro t1 ht1 hn1
    have mid2 := fun t2 => mid2 t1 t2 ht1 hn1
    iterate 1 refine fst1_ok X (dk rfl) rfl ?_
    have mid2T : ¬ inN 2 x3 → ∀ l : List (Nat × Value), l = (lv_args 0 [.ref o, .int x1, .int x2, .int x3]) → WR p la e (rmD 86 8422 97121) s m args below meth c D cA B0 4 (refR o S A kn (aCan x1 x2 x3 (sl, an, da, dr)) h) 29 l [.int (bI t1), .ref o] h 0 0 := by
      intro hx l hl
      rw [hl]
      refine fst1_ok X (dk rfl) rfl ?_
      refine br_ok X (dk rfl) rfl (show ((30 : Nat) : Int) + 4 = ((34 : Nat) : Int) from rfl) (fun _ => ?_) (fun q => absurd trivial q)
      exact mid2 true (fun z => by cases z) (fun _ => hx)
    refine br_ok X (dk rfl) rfl (show ((21 : Nat) : Int) + 8 = ((29 : Nat) : Int) from rfl) (fun c0 => mid2T (fun z => inN_pos z (by decide) c0) _ rfl) (fun c1 => ?_)
    iterate 2 refine fst1_ok X (dk rfl) rfl ?_
    refine br_ok X (dk rfl) rfl (show ((26 : Nat) : Int) + 7 = ((33 : Nat) : Int) from rfl) (fun c2 => ?_) (fun c0 => mid2T (fun z => c0 (by rw [show Int32.ofInt 1 = nI 1 by decide +kernel]; exact inN_leN z (by decide))) _ rfl)
    refine fst1_ok X (dk rfl) rfl ?_
    exact mid2 false (fun _ => inN_le (K := 1) (by omega) c1 (by rw [show nI 1 = Int32.ofInt 1 by decide +kernel]; exact c2)) (fun z => by cases z)
  iterate 2 refine fst1_ok X (dk rfl) rfl ?_
  refine isSlot_ok X E mlX10_95 ⟨Nat.le_of_ble_eq_true rfl, Nat.le_of_ble_eq_true rfl⟩ ⟨Nat.le_of_ble_eq_true rfl, Nat.le_of_ble_eq_true rfl⟩ (Nat.le_of_ble_eq_true rfl) (dk rfl) (fun mid1b0 mid1h0 mid1n0 => ?_)
  cases mid1b0 with
  | false =>
    refine br_ok X (dk rfl) rfl (show ((5 : Nat) : Int) + 10 = ((15 : Nat) : Int) from rfl) (fun _ => ?_) (fun q => absurd bI_f' q)
    refine fst1_ok X (dk rfl) rfl ?_
    refine br_ok X (dk rfl) rfl (show ((16 : Nat) : Int) + 4 = ((20 : Nat) : Int) from rfl) (fun _ => ?_) (fun q => absurd trivial q)
    exact mid1 true (fun z => by cases z) (fun _ hh => absurd (hh.1) (mid1n0 rfl))
  | true =>
    refine br_ok X (dk rfl) rfl (show ((5 : Nat) : Int) + 10 = ((15 : Nat) : Int) from rfl) (fun q => absurd q bI_t) (fun _ => ?_)
    iterate 1 refine fst1_ok X (dk rfl) rfl ?_
    refine isSlot_ok X E mlX10_95 ⟨Nat.le_of_ble_eq_true rfl, Nat.le_of_ble_eq_true rfl⟩ ⟨Nat.le_of_ble_eq_true rfl, Nat.le_of_ble_eq_true rfl⟩ (Nat.le_of_ble_eq_true rfl) (dk rfl) (fun mid1b1 mid1h1 mid1n1 => ?_)
    cases mid1b1 with
    | false =>
      refine br_ok X (dk rfl) rfl (show ((12 : Nat) : Int) + 7 = ((19 : Nat) : Int) from rfl) (fun q => absurd q bI_f) (fun _ => ?_)
      refine fst1_ok X (dk rfl) rfl ?_
      refine br_ok X (dk rfl) rfl (show ((16 : Nat) : Int) + 4 = ((20 : Nat) : Int) from rfl) (fun _ => ?_) (fun q => absurd trivial q)
      exact mid1 true (fun z => by cases z) (fun _ hh => absurd (hh.2) (mid1n1 rfl))
    | true =>
      refine br_ok X (dk rfl) rfl (show ((12 : Nat) : Int) + 7 = ((19 : Nat) : Int) from rfl) (fun _ => ?_) (fun q => absurd bI_t q)
      refine fst1_ok X (dk rfl) rfl ?_
      exact mid1 false (fun _ => ⟨mid1h0 rfl, mid1h1 rfl⟩) (fun z => by cases z)
set_option maxHeartbeats 4000000 in
theorem RF.x_makes (h : AH) (M : MD h o S A sl an da dr kn th) (x1 x2 x3 : Int32) : CT la D cA B0 pa yX10_makes cX10_makes 4 (some .boolean) (rmD 3 34 544) [.ref o, .int x1, .int x2, .int x3] h (refR o S A kn (aMakes x1 x2 x3 (sl, an, da, dr)) h) := by
  refine CT_of (by decide +kernel) (Nat.le_of_ble_eq_true rfl) ?_
  intro p e s m args below meth c X E hr hlk hnm
  have dk : ∀ {pc : Nat} {q : Instr × Nat}, lkd DX10_makes pc = some q → decode cX10_makes pc = .ok q := lkd_ok DX10_makes_ok
  have mid1 : ∀ t1 : Bool, (t1 = false → inN 3 x1 ∧ inN 6 x2 ∧ inN 6 x3) → (t1 = true → ¬ (inN 3 x1 ∧ inN 6 x2 ∧ inN 6 x3)) → WR p la e (rmD 3 34 544) s m args below meth c D cA B0 4 (refR o S A kn (aMakes x1 x2 x3 (sl, an, da, dr)) h) 27 (lv_args 0 [.ref o, .int x1, .int x2, .int x3]) [.int (bI t1), .ref o] h 0 0 := by
    intro t1 ht1 hn1
    refine thr1_ok X E M ⟨Nat.le_of_ble_eq_true rfl, Nat.le_of_ble_eq_true rfl⟩ ⟨Nat.le_of_ble_eq_true rfl, Nat.le_of_ble_eq_true rfl⟩ (Nat.le_of_ble_eq_true rfl) (dk rfl) (fun h1 M1 F1 => ?_)
    cases hb : t1 with
    | true =>
      have hT1 : ¬ (inN 3 x1 ∧ inN 6 x2 ∧ inN 6 x3) → aMakes x1 x2 x3 (sl, an, da, dr) = ((1, 0), (sl, an, da, dr)) := (fun hn => by
          unfold aMakes
          by_cases q0 : okI 3 x1 = true
          rotate_left
          · exact if_neg q0
          rw [if_pos q0]
          by_cases q1 : okI 6 x2 = true
          rotate_left
          · exact if_neg q1
          rw [if_pos q1]
          by_cases q2 : okI 6 x3 = true
          rotate_left
          · exact if_neg q2
          rw [if_pos q2]
          exact absurd ⟨okI_in (by decide) q0, okI_in (by decide) q1, okI_in (by decide) q2⟩ hn)
      have hE : aMakes x1 x2 x3 (sl, an, da, dr) = ((thI t1 false, 0), (sl, an, da, dr)) := by
        rw [hb]
        exact hT1 (hn1 hb)
      refine br_ok X (dk rfl) rfl (show ((30 : Nat) : Int) + 43 = ((73 : Nat) : Int) from rfl) (fun _ => ?_) (fun q => absurd bI_t q)
      refine fst1_ok X (dk rfl) rfl ?_
      exact reti_ok X hr hlk (bI_n false) (dk rfl) (refR_thr M1 F1 hE (by decide +kernel)) (Nat.zero_le _) (Nat.zero_le _)
    | false =>
      obtain ⟨⟨j1, hj1, rfl⟩, ⟨j2, hj2, rfl⟩, ⟨j3, hj3, rfl⟩⟩ := ht1 hb
      have M1 : MD h1 o S A sl an da dr kn (nI 0) := by
        rw [hb] at M1
        exact M1
      obtain ⟨ss, s1, s2, s3⟩ := M1.slot
      obtain ⟨as, a1, a2, a3⟩ := M1.ans
      obtain ⟨b1, y1, e1, f1, g1, w1, n1⟩ := a3 j1 hj1
      obtain ⟨b2, y2, e2, f2, g2, w2, n2⟩ := s3 j2 hj2
      have ly2 : (y2.map vI).length = y2.length := List.length_map _
      obtain ⟨b3, y3, e3, f3, g3, w3, n3⟩ := s3 j3 hj3
      have ly3 : (y3.map vI).length = y3.length := List.length_map _
      refine br_ok X (dk rfl) rfl (show ((30 : Nat) : Int) + 43 = ((73 : Nat) : Int) from rfl) (fun q => absurd q bI_f) (fun _ => ?_)
      repeat refine fst1_ok X (dk rfl) rfl ?_
      refine getf_ok X flX10_16 (dk rfl) M1.obj rfl ?_
      refine fst1_ok X (dk rfl) rfl ?_
      refine lda_ok X (dk rfl) a2 e1 (by omega) ?_
      repeat refine fst1_ok X (dk rfl) rfl ?_
      refine getf_ok X flX10_11 (dk rfl) M1.obj rfl ?_
      refine fst1_ok X (dk rfl) rfl ?_
      refine ldr_ok X (dk rfl) s2 e2 (by omega) ?_
      have ul2 : (usedL y1 y2).length ≤ 256 := by have := usedL_len y1 (M := 16) (fun z hz => (w1.2 z hz).2) (by omega) y2; omega
      have ul3 : (usedL y1 y3).length ≤ 256 := by have := usedL_len y1 (M := 16) (fun z hz => (w1.2 z hz).2) (by omega) y3; omega
      refine callS_ok (av := [.ref b1, .ref b2]) (r := []) X E (c_used h1 g1 g2 (by omega) (by rw [w1.1]; omega) w2.lt (fun z hz hz10 => by rw [w1.1]; rcases w2.2 z hz with q | q <;> omega) (by omega)) lkX10_used mlX10_120 lsX10_used ⟨Nat.le_of_ble_eq_true rfl, Nat.le_of_ble_eq_true rfl⟩ ⟨by show 0 + (1 + y2.length) ≤ 34; omega, by show 0 + ((usedL y1 y2).length + y2.length) ≤ 544; omega⟩ (Nat.le_of_ble_eq_true rfl) (dk rfl) ?_
      rintro v h4 ⟨q, rfl, hq, hBq, XQ, hQ⟩
      refine WS.widen (k' := 17) (n' := 272) (by show 0 + (1 + y2.length) ≤ 17; omega) (by show 0 + ((usedL y1 y2).length + y2.length) ≤ 272; omega) ?_
      have M2 := M1.ext XQ
      repeat refine fst1_ok X (dk rfl) rfl ?_
      refine getf_ok X flX10_16 (dk rfl) M2.obj rfl ?_
      refine fst1_ok X (dk rfl) rfl ?_
      refine lda_ok X (dk rfl) (XQ _ _ a2) e1 (by omega) ?_
      repeat refine fst1_ok X (dk rfl) rfl ?_
      refine getf_ok X flX10_11 (dk rfl) M2.obj rfl ?_
      refine fst1_ok X (dk rfl) rfl ?_
      refine ldr_ok X (dk rfl) (XQ _ _ s2) e3 (by omega) ?_
      refine callS_ok (av := [.ref b1, .ref b3]) (r := [.ref q]) X E (c_used h4 (g1.ext XQ) (XQ _ _ g3) (by omega) (by rw [w1.1]; omega) w3.lt (fun z hz hz10 => by rw [w1.1]; rcases w3.2 z hz with q | q <;> omega) (by omega)) lkX10_used mlX10_120 lsX10_used ⟨Nat.le_of_ble_eq_true rfl, Nat.le_of_ble_eq_true rfl⟩ ⟨by show 17 + (1 + y3.length) ≤ 34; omega, by show 272 + ((usedL y1 y3).length + y3.length) ≤ 544; omega⟩ (Nat.le_of_ble_eq_true rfl) (dk rfl) ?_
      rintro v h5 ⟨q5, rfl, hq5, hBq5, XQ5, hQ5⟩
      refine WS.widen (k' := 34) (n' := 544) (by show 17 + (1 + y3.length) ≤ 34; omega) (by show 272 + ((usedL y1 y3).length + y3.length) ≤ 544; omega) ?_
      have tU2 := TW.used (rows := y1) (fun z hz => (w1.2 z hz).1) (by rw [w1.1]; omega) w2
      have tU3 := TW.used (rows := y1) (fun z hz => (w1.2 z hz).1) (by rw [w1.1]; omega) w3
      refine callS_ok (av := [.ref q, .ref q5]) (r := []) X E (c_same h5 (XQ5 _ _ hQ) hQ5 (by omega) (by omega) tU2.lt tU3.lt) lkX10_same mlX10_54 lsX10_same ⟨Nat.le_of_ble_eq_true rfl, Nat.le_of_ble_eq_true rfl⟩ ⟨Nat.le_of_ble_eq_true rfl, Nat.le_of_ble_eq_true rfl⟩ (Nat.le_of_ble_eq_true rfl) (dk rfl) ?_
      rintro v h6 ⟨rfl, rfl⟩
      rw [ite_bI]
      cases hz : decide (usedL y1 y2 = usedL y1 y3) with
      | false =>
        refine br_ok X (dk rfl) rfl (show ((66 : Nat) : Int) + 7 = ((73 : Nat) : Int) from rfl) (fun _ => ?_) (fun q => absurd bI_f' q)
        refine fst1_ok X (dk rfl) rfl ?_
        exact reti_ok X hr hlk (bI_n false) (dk rfl) (refR_ok ((M2.ext XQ5)) (F1.trans (Fr.ext (XQ.trans XQ5))) (by unfold aMakes; dsimp only; rw [if_pos (okI_t hj1 (by decide)), if_pos (okI_t hj2 (by decide)), if_pos (okI_t hj3 (by decide)), xI_n (by omega), xI_n (by omega), xI_n (by omega), getD_of f1, getD_of f2, getD_of f3]; rw [hz]; first | done | rfl)) (Nat.le_of_ble_eq_true rfl) (Nat.le_of_ble_eq_true rfl)
      | true =>
        refine br_ok X (dk rfl) rfl (show ((66 : Nat) : Int) + 7 = ((73 : Nat) : Int) from rfl) (fun q => absurd q bI_t) (fun _ => ?_)
        refine fst1_ok X (dk rfl) rfl ?_
        refine br_ok X (dk rfl) rfl (show ((70 : Nat) : Int) + 4 = ((74 : Nat) : Int) from rfl) (fun _ => ?_) (fun q => absurd trivial q)
        exact reti_ok X hr hlk (bI_n true) (dk rfl) (refR_ok ((M2.ext XQ5)) (F1.trans (Fr.ext (XQ.trans XQ5))) (by unfold aMakes; dsimp only; rw [if_pos (okI_t hj1 (by decide)), if_pos (okI_t hj2 (by decide)), if_pos (okI_t hj3 (by decide)), xI_n (by omega), xI_n (by omega), xI_n (by omega), getD_of f1, getD_of f2, getD_of f3]; rw [hz]; first | done | rfl)) (Nat.le_of_ble_eq_true rfl) (Nat.le_of_ble_eq_true rfl)
  iterate 2 refine fst1_ok X (dk rfl) rfl ?_
  refine isAnswer_ok X E mlX10_135 ⟨Nat.le_of_ble_eq_true rfl, Nat.le_of_ble_eq_true rfl⟩ ⟨Nat.le_of_ble_eq_true rfl, Nat.le_of_ble_eq_true rfl⟩ (Nat.le_of_ble_eq_true rfl) (dk rfl) (fun mid1b0 mid1h0 mid1n0 => ?_)
  cases mid1b0 with
  | false =>
    refine br_ok X (dk rfl) rfl (show ((5 : Nat) : Int) + 17 = ((22 : Nat) : Int) from rfl) (fun _ => ?_) (fun q => absurd bI_f' q)
    refine fst1_ok X (dk rfl) rfl ?_
    refine br_ok X (dk rfl) rfl (show ((23 : Nat) : Int) + 4 = ((27 : Nat) : Int) from rfl) (fun _ => ?_) (fun q => absurd trivial q)
    exact mid1 true (fun z => by cases z) (fun _ hh => absurd (hh.1) (mid1n0 rfl))
  | true =>
    refine br_ok X (dk rfl) rfl (show ((5 : Nat) : Int) + 17 = ((22 : Nat) : Int) from rfl) (fun q => absurd q bI_t) (fun _ => ?_)
    iterate 1 refine fst1_ok X (dk rfl) rfl ?_
    refine isSlot_ok X E mlX10_95 ⟨Nat.le_of_ble_eq_true rfl, Nat.le_of_ble_eq_true rfl⟩ ⟨Nat.le_of_ble_eq_true rfl, Nat.le_of_ble_eq_true rfl⟩ (Nat.le_of_ble_eq_true rfl) (dk rfl) (fun mid1b1 mid1h1 mid1n1 => ?_)
    cases mid1b1 with
    | false =>
      refine br_ok X (dk rfl) rfl (show ((12 : Nat) : Int) + 10 = ((22 : Nat) : Int) from rfl) (fun _ => ?_) (fun q => absurd bI_f' q)
      refine fst1_ok X (dk rfl) rfl ?_
      refine br_ok X (dk rfl) rfl (show ((23 : Nat) : Int) + 4 = ((27 : Nat) : Int) from rfl) (fun _ => ?_) (fun q => absurd trivial q)
      exact mid1 true (fun z => by cases z) (fun _ hh => absurd (hh.2.1) (mid1n1 rfl))
    | true =>
      refine br_ok X (dk rfl) rfl (show ((12 : Nat) : Int) + 10 = ((22 : Nat) : Int) from rfl) (fun q => absurd q bI_t) (fun _ => ?_)
      iterate 1 refine fst1_ok X (dk rfl) rfl ?_
      refine isSlot_ok X E mlX10_95 ⟨Nat.le_of_ble_eq_true rfl, Nat.le_of_ble_eq_true rfl⟩ ⟨Nat.le_of_ble_eq_true rfl, Nat.le_of_ble_eq_true rfl⟩ (Nat.le_of_ble_eq_true rfl) (dk rfl) (fun mid1b2 mid1h2 mid1n2 => ?_)
      cases mid1b2 with
      | false =>
        refine br_ok X (dk rfl) rfl (show ((19 : Nat) : Int) + 7 = ((26 : Nat) : Int) from rfl) (fun q => absurd q bI_f) (fun _ => ?_)
        refine fst1_ok X (dk rfl) rfl ?_
        refine br_ok X (dk rfl) rfl (show ((23 : Nat) : Int) + 4 = ((27 : Nat) : Int) from rfl) (fun _ => ?_) (fun q => absurd trivial q)
        exact mid1 true (fun z => by cases z) (fun _ hh => absurd (hh.2.2) (mid1n2 rfl))
      | true =>
        refine br_ok X (dk rfl) rfl (show ((19 : Nat) : Int) + 7 = ((26 : Nat) : Int) from rfl) (fun _ => ?_) (fun q => absurd bI_t q)
        refine fst1_ok X (dk rfl) rfl ?_
        exact mid1 false (fun _ => ⟨mid1h0 rfl, mid1h1 rfl, mid1h2 rfl⟩) (fun z => by cases z)
set_option maxHeartbeats 4000000 in
theorem RF.x_isSo (h : AH) (M : MD h o S A sl an da dr kn th) (x1 x2 : Int32) : CT la D cA B0 pa yX10_isSo cX10_isSo 9 (some .boolean) (rmD 5 137 2184) [.ref o, .int x1, .int x2] h (refR o S A kn (aIsSo x1 x2 (sl, an, da, dr)) h) := by
  refine CT_of (by decide +kernel) (Nat.le_of_ble_eq_true rfl) ?_
  intro p e s m args below meth c X E hr hlk hnm
  have dk : ∀ {pc : Nat} {q : Instr × Nat}, lkd DX10_isSo pc = some q → decode cX10_isSo pc = .ok q := lkd_ok DX10_isSo_ok
  have mid2 : ∀ t1 t2 : Bool, (t1 = false → inN 3 x1) → (t1 = true → ¬ (inN 3 x1)) → (t2 = false → inN 2 x2) → (t2 = true → ¬ (inN 2 x2)) → WR p la e (rmD 5 137 2184) s m args below meth c D cA B0 9 (refR o S A kn (aIsSo x1 x2 (sl, an, da, dr)) h) 27 (lv_args 0 [.ref o, .int x1, .int x2]) [.int (bI t2), .int (bI t1), .ref o] h 0 0 := by
    intro t1 t2 ht1 hn1 ht2 hn2
    refine thr2_ok X E M ⟨Nat.le_of_ble_eq_true rfl, Nat.le_of_ble_eq_true rfl⟩ ⟨Nat.le_of_ble_eq_true rfl, Nat.le_of_ble_eq_true rfl⟩ (Nat.le_of_ble_eq_true rfl) (dk rfl) (fun h1 M1 F1 => ?_)
    cases hb : (t1 || t2) with
    | true =>
      have hT1 : ¬ (inN 3 x1) → aIsSo x1 x2 (sl, an, da, dr) = ((1, 0), (sl, an, da, dr)) := (fun hn => by
          unfold aIsSo
          by_cases q0 : okI 3 x1 = true
          rotate_left
          · exact if_neg q0
          rw [if_pos q0]
          exact absurd (okI_in (by decide) q0) hn)
      have hT2 : (inN 3 x1) → ¬ (inN 2 x2) → aIsSo x1 x2 (sl, an, da, dr) = ((2, 0), (sl, an, da, dr)) := (fun hp hq => by
          unfold aIsSo
          rw [if_pos (okI_of (by decide) (hp)), if_neg (fun z => hq (how_in z))])
      have hE : aIsSo x1 x2 (sl, an, da, dr) = ((thI t1 t2, 0), (sl, an, da, dr)) := by
        cases t1 with
        | true => exact hT1 (hn1 rfl)
        | false =>
          cases t2 with
          | true => exact hT2 (ht1 rfl) (hn2 rfl)
          | false => cases hb
      refine br_ok X (dk rfl) rfl (show ((30 : Nat) : Int) + 5 = ((35 : Nat) : Int) from rfl) (fun q => absurd q bI_t) (fun _ => ?_)
      refine fst1_ok X (dk rfl) rfl ?_
      exact reti_ok X hr hlk (bI_n false) (dk rfl) (refR_thr M1 F1 hE (by decide +kernel)) (Nat.zero_le _) (Nat.zero_le _)
    | false =>
      refine br_ok X (dk rfl) rfl (show ((30 : Nat) : Int) + 5 = ((35 : Nat) : Int) from rfl) (fun _ => ?_) (fun q => absurd bI_f' q)
      obtain ⟨hb1, hb2⟩ := Bool.or_eq_false_iff.mp hb
      obtain ⟨j1, hj1, rfl⟩ := ht1 hb1
      obtain ⟨j2, hj2, rfl⟩ := ht2 hb2
      have th0 : thI t1 t2 = 0 := by
        cases t1 with
        | true => cases hb
        | false =>
          cases t2 with
          | true => cases hb
          | false => rfl
      rw [th0] at M1
      obtain ⟨ss, s1, s2, s3⟩ := M1.slot
      obtain ⟨as, a1, a2, a3⟩ := M1.ans
      obtain ⟨b1, y1, e1, f1, g1, w1, n1⟩ := a3 j1 hj1
      repeat refine fst1_ok X (dk rfl) rfl ?_
      refine getf_ok X flX10_16 (dk rfl) M1.obj rfl ?_
      refine fst1_ok X (dk rfl) rfl ?_
      refine lda_ok X (dk rfl) a2 e1 (by omega) ?_
      have bl : y1.length = 8 := w1.1
      obtain ⟨as1, as2, as3, as4⟩ := g1.row
      iterate 2 refine fst1_ok X (dk rfl) rfl ?_
      refine br_ok X (dk rfl) rfl (show ((43 : Nat) : Int) + 21 = ((64 : Nat) : Int) from rfl) (fun c9 => ?_) (fun c9 => ?_)
      · have loop : ∀ (d i : Nat), d = 8 - i → i ≤ 8 → ∀ (z : Int32) (l : List (Nat × Value)), z = nI (metN y1 i) → lsel l [7, 6, 5, 4] = [(7, vI i), (6, vI 8), (5, .ref b1), (4, .int z)] → WR p la e (rmD 5 137 2184) s m args below meth c D cA B0 9 (refR o S A kn (aIsSo (nI j1) (nI j2) (sl, an, da, dr)) h) 78 l [] h1 0 0 := by
          intro d
          induction d with
          | zero =>
            intro i hd hi z l ez hl
            have hi2 : i = 8 := by omega
            subst hi2
            refine WS.sel [7, 6, 5, 4] hl ?_
            repeat refine fst1_ok X (dk rfl) rfl ?_
            refine br_ok X (dk rfl) rfl (show ((82 : Nat) : Int) + 40 = ((122 : Nat) : Int) from rfl) (fun _ => ?_) (fun c1 => absurd (Int32.le_refl _) c1)
            repeat refine fst1_ok X (dk rfl) rfl ?_
            refine callS_ok (av := [.int z]) (r := []) X E (c_ones h1 z) lkX10_ones mlX10_128 lsX10_ones ⟨Nat.le_of_ble_eq_true rfl, Nat.le_of_ble_eq_true rfl⟩ ⟨Nat.le_of_ble_eq_true rfl, Nat.le_of_ble_eq_true rfl⟩ (Nat.le_of_ble_eq_true rfl) (dk rfl) ?_
            rintro v h3 ⟨rfl, rfl⟩
            refine fst1_ok X (dk rfl) rfl ?_
            refine br_ok X (dk rfl) rfl (show ((129 : Nat) : Int) + 7 = ((136 : Nat) : Int) from rfl) (fun c8 => ?_) (fun c8 => ?_)
            · refine fst1_ok X (dk rfl) rfl ?_
              exact reti_ok X hr hlk (bI_n false) (dk rfl) (refR_ok (M1) (F1) (by have eb : soB (nI j2) y1 = decide (bcF (nI (metN y1 8)) = nI 8) := if_neg c9; unfold aIsSo; dsimp only; rw [if_pos (okI_t hj1 (by decide)), if_pos (in_how hj2), xI_n (by omega), getD_of f1]; rw [eb]; rw [ez] at c8; rw [decide_eq_false (fun z => c8 (by rw [z, nI_8']))]; first | done | rfl)) (Nat.le_of_ble_eq_true rfl) (Nat.le_of_ble_eq_true rfl)
            · refine fst1_ok X (dk rfl) rfl ?_
              refine br_ok X (dk rfl) rfl (show ((133 : Nat) : Int) + 4 = ((137 : Nat) : Int) from rfl) (fun _ => ?_) (fun q => absurd trivial q)
              exact reti_ok X hr hlk (bI_n true) (dk rfl) (refR_ok (M1) (F1) (by have eb : soB (nI j2) y1 = decide (bcF (nI (metN y1 8)) = nI 8) := if_neg c9; unfold aIsSo; dsimp only; rw [if_pos (okI_t hj1 (by decide)), if_pos (in_how hj2), xI_n (by omega), getD_of f1]; rw [eb]; rw [ez] at c8; rw [decide_eq_true (by rw [← nI_8']; exact Decidable.not_not.mp c8)]; first | done | rfl)) (Nat.le_of_ble_eq_true rfl) (Nat.le_of_ble_eq_true rfl)
          | succ d ih =>
            intro i hd hi z l ez hl
            obtain ⟨c5, z5, i5, i6, i7⟩ := as4 i (by omega)
            have t5 := w1.2 z5 (List.mem_of_getElem? i6)
            obtain ⟨x, hx⟩ : ∃ x, z5[0]? = some x := ⟨z5[0]'t5.1.pos, by simp⟩
            have em : metN y1 (i + 1) = if z5.length = 1 then metN y1 i ||| namesN z5 else metN y1 i := by
              show (if (y1.getD i []).length = 1 then metN y1 i ||| namesN (y1.getD i []) else metN y1 i) = _
              rw [getD_of i6]
            have f2v : Value.int (nI i + Int32.ofInt 1) = vI (i + 1) := congrArg Value.int (by rw [nI_1', nI_add])
            have go9 : ∀ (w z : Int32) (l : List (Nat × Value)), z ||| w = nI (metN y1 (i + 1)) → lsel l [7, 6, 5] = [(7, vI i), (6, vI 8), (5, .ref b1)] → WR p la e (rmD 5 137 2184) s m args below meth c D cA B0 9 (refR o S A kn (aIsSo (nI j1) (nI j2) (sl, an, da, dr)) h) 113 l [.int w, .int z] h1 0 0 := by
              intro w z l ew hl
              refine WS.sel [7, 6, 5] hl ?_
              repeat refine fst1_ok X (dk rfl) rfl ?_
              refine br_ok X (dk rfl) rfl (show ((119 : Nat) : Int) + (-41) = ((78 : Nat) : Int) from rfl) (fun _ => ?_) (fun q => absurd trivial q)
              refine WS.sel (l' := [(7, vI (i + 1)), (6, vI 8), (5, .ref b1), (4, .int (z ||| w))]) [7, 6, 5, 4] (by rw [← f2v]; rfl) ?_
              exact ih (i + 1) (by omega) (by omega) _ _ ew rfl
            refine WS.sel [7, 6, 5, 4] hl ?_
            repeat refine fst1_ok X (dk rfl) rfl ?_
            refine br_ok X (dk rfl) rfl (show ((82 : Nat) : Int) + 40 = ((122 : Nat) : Int) from rfl) (fun c1 => absurd c1 (nI_ge (a := i) (b := 8) (by omega) (by omega))) (fun _ => ?_)
            repeat refine fst1_ok X (dk rfl) rfl ?_
            refine ldr_ok X (dk rfl) as3 i5 (by omega) ?_
            repeat refine fst1_ok X (dk rfl) rfl ?_
            refine ald_ok X (Or.inl ⟨rfl, rfl⟩) (dk rfl) i7 (inA_nI (j := 0) (by omega) (IA_get hx)) ?_
            refine fst1_ok X (dk rfl) rfl ?_
            refine br_ok X (dk rfl) rfl (show ((100 : Nat) : Int) + 12 = ((112 : Nat) : Int) from rfl) (fun c7 => ?_) (fun c7 => ?_)
            · refine fst1_ok X (dk rfl) rfl ?_
              exact go9 _ _ _ (by
                have x10 : 10 ≤ x := by
                  rcases Nat.lt_or_ge x 10 with z | z
                  · exact absurd c7 (by rw [nI_10]; exact nI_ge (by omega) (by omega))
                  · exact z
                rw [ez, em, (met_hd t5.1 hx).1 x10, nI_or0]) rfl
            · repeat refine fst1_ok X (dk rfl) rfl ?_
              refine ald_ok X (Or.inl ⟨rfl, rfl⟩) (dk rfl) i7 (inA_nI (j := 0) (by omega) (IA_get hx)) ?_
              refine fst1_ok X (dk rfl) rfl ?_
              refine br_ok X (dk rfl) rfl (show ((109 : Nat) : Int) + 4 = ((113 : Nat) : Int) from rfl) (fun _ => ?_) (fun q => absurd trivial q)
              exact go9 _ _ _ (by
                have x10 : x < 10 := by
                  rcases Nat.lt_or_ge x 10 with z | z
                  · exact z
                  · exact absurd ((nI_leI (by omega) (by have := t5.1.lt x (List.mem_of_getElem? hx); omega)).mpr z) (by rw [← nI_10]; exact c7)
                rw [ez, em, (met_hd t5.1 hx).2 x10, shl1 x (by omega), nI_or]) rfl
        iterate 5 refine fst1_ok X (dk rfl) rfl ?_
        refine alen_ok X (by decide) (dk rfl) as3 ?_
        rw [show (as1.map Value.ref).length = 8 by rw [List.length_map]; omega]
        iterate 3 refine fst1_ok X (dk rfl) rfl ?_
        exact loop 8 0 rfl (Nat.zero_le _) _ _ nI_0' rfl
      · repeat refine fst1_ok X (dk rfl) rfl ?_
        refine callS_ok (av := [.ref b1, .ref b1]) (r := []) X E (c_withBehind h1 g1 g1 w1 w1) lkX10_withBehind mlX10_149 lsX10_withBehind ⟨Nat.le_of_ble_eq_true rfl, Nat.le_of_ble_eq_true rfl⟩ ⟨Nat.le_of_ble_eq_true rfl, Nat.le_of_ble_eq_true rfl⟩ (Nat.le_of_ble_eq_true rfl) (dk rfl) ?_
        rintro v h2 ⟨N, rfl, hN, hBN, XN, nN⟩
        have oN : AW (y1.map (usedL y1)) := by
          refine ⟨by rw [List.length_map]; exact w1.1, fun z hz => ?_⟩
          obtain ⟨t, ht, rfl⟩ := List.mem_map.mp hz
          have h5 := w1.2 t ht
          refine ⟨TW.used (fun z hz => (w1.2 z hz).1) (by rw [w1.1]; omega) h5.1, ?_⟩
          have := usedL_len y1 (M := 16) (fun z hz => (w1.2 z hz).2) (by omega) t
          omega
        repeat refine fst1_ok X (dk rfl) rfl ?_
        refine callS_ok (av := [.ref N, .ref b1]) (r := []) X E (c_unlikeOf h2 nN (g1.ext XN) oN w1.aw) lkX10_unlikeOf mlX10_214 lsX10_unlikeOf ⟨Nat.le_of_ble_eq_true rfl, Nat.le_of_ble_eq_true rfl⟩ ⟨Nat.le_of_ble_eq_true rfl, Nat.le_of_ble_eq_true rfl⟩ (Nat.le_of_ble_eq_true rfl) (dk rfl) ?_
        rintro v h3 ⟨⟨u, rfl, hu1, hu2⟩, rfl⟩
        have eu := ulN_of (r1 := y1.map (usedL y1)) (r2 := y1) (by rw [List.length_map]; exact w1.1) w1.1 hu1 hu2
        have fin9 : ∀ (x : Int32) (l : List (Nat × Value)), (x < 0 ↔ y1.map (usedL y1) = y1) → WR p la e (rmD 5 137 2184) s m args below meth c D cA B0 9 (refR o S A kn (aIsSo (nI j1) (nI j2) (sl, an, da, dr)) h) 55 l [.int x] h3 137 2184 := by
          intro x l ex
          refine br_ok X (dk rfl) rfl (show ((55 : Nat) : Int) + 7 = ((62 : Nat) : Int) from rfl) (fun c6 => ?_) (fun c6 => ?_)
          · refine fst1_ok X (dk rfl) rfl ?_
            exact reti_ok X hr hlk (bI_n false) (dk rfl) (refR_ok ((M1.ext XN)) (F1.trans (Fr.ext XN)) (by have eb : soB (nI j2) y1 = decide (behL y1 y1 = y1) := if_pos (Decidable.not_not.mp c9); unfold aIsSo; dsimp only; rw [if_pos (okI_t hj1 (by decide)), if_pos (in_how hj2), xI_n (by omega), getD_of f1]; rw [eb]; rw [show decide (behL y1 y1 = y1) = false from decide_eq_false (fun z => absurd (ex.mpr z) (Int32.not_lt.mpr c6))]; first | done | rfl)) (Nat.le_of_ble_eq_true rfl) (Nat.le_of_ble_eq_true rfl)
          · refine fst1_ok X (dk rfl) rfl ?_
            refine br_ok X (dk rfl) rfl (show ((59 : Nat) : Int) + 4 = ((63 : Nat) : Int) from rfl) (fun _ => ?_) (fun q => absurd trivial q)
            exact reti_ok X hr hlk (bI_n true) (dk rfl) (refR_ok ((M1.ext XN)) (F1.trans (Fr.ext XN)) (by have eb : soB (nI j2) y1 = decide (behL y1 y1 = y1) := if_pos (Decidable.not_not.mp c9); unfold aIsSo; dsimp only; rw [if_pos (okI_t hj1 (by decide)), if_pos (in_how hj2), xI_n (by omega), getD_of f1]; rw [eb]; rw [show decide (behL y1 y1 = y1) = true from decide_eq_true (ex.mp (Int32.not_le.mp c6))]; first | done | rfl)) (Nat.le_of_ble_eq_true rfl) (Nat.le_of_ble_eq_true rfl)
        cases u with
        | none => exact fin9 _ _ ⟨fun _ => (ulN_none (by rw [List.length_map]; exact w1.1) w1.1).mp eu, fun _ => by decide⟩
        | some u => exact fin9 _ _ ⟨fun z => absurd z (nI_pos (by have := ulN_lt eu; omega)), fun z => by
            have := (ulN_none (by rw [List.length_map]; exact w1.1) w1.1).mpr z
            rw [eu] at this
            cases this⟩
  have mid1 : ∀ t1 : Bool, (t1 = false → inN 3 x1) → (t1 = true → ¬ (inN 3 x1)) → WR p la e (rmD 5 137 2184) s m args below meth c D cA B0 9 (refR o S A kn (aIsSo x1 x2 (sl, an, da, dr)) h) 13 (lv_args 0 [.ref o, .int x1, .int x2]) [.int (bI t1), .ref o] h 0 0 := by
    intro t1 ht1 hn1
    have mid2 := fun t2 => mid2 t1 t2 ht1 hn1
    iterate 1 refine fst1_ok X (dk rfl) rfl ?_
    have mid2T : ¬ inN 2 x2 → ∀ l : List (Nat × Value), l = (lv_args 0 [.ref o, .int x1, .int x2]) → WR p la e (rmD 5 137 2184) s m args below meth c D cA B0 9 (refR o S A kn (aIsSo x1 x2 (sl, an, da, dr)) h) 22 l [.int (bI t1), .ref o] h 0 0 := by
      intro hx l hl
      rw [hl]
      refine fst1_ok X (dk rfl) rfl ?_
      refine br_ok X (dk rfl) rfl (show ((23 : Nat) : Int) + 4 = ((27 : Nat) : Int) from rfl) (fun _ => ?_) (fun q => absurd trivial q)
      exact mid2 true (fun z => by cases z) (fun _ => hx)
    refine br_ok X (dk rfl) rfl (show ((14 : Nat) : Int) + 8 = ((22 : Nat) : Int) from rfl) (fun c0 => mid2T (fun z => inN_pos z (by decide) c0) _ rfl) (fun c1 => ?_)
    iterate 2 refine fst1_ok X (dk rfl) rfl ?_
    refine br_ok X (dk rfl) rfl (show ((19 : Nat) : Int) + 7 = ((26 : Nat) : Int) from rfl) (fun c2 => ?_) (fun c0 => mid2T (fun z => c0 (by rw [show Int32.ofInt 1 = nI 1 by decide +kernel]; exact inN_leN z (by decide))) _ rfl)
    refine fst1_ok X (dk rfl) rfl ?_
    exact mid2 false (fun _ => inN_le (K := 1) (by omega) c1 (by rw [show nI 1 = Int32.ofInt 1 by decide +kernel]; exact c2)) (fun z => by cases z)
  iterate 2 refine fst1_ok X (dk rfl) rfl ?_
  refine isAnswer_ok X E mlX10_135 ⟨Nat.le_of_ble_eq_true rfl, Nat.le_of_ble_eq_true rfl⟩ ⟨Nat.le_of_ble_eq_true rfl, Nat.le_of_ble_eq_true rfl⟩ (Nat.le_of_ble_eq_true rfl) (dk rfl) (fun mid1b0 mid1h0 mid1n0 => ?_)
  cases mid1b0 with
  | false =>
    refine br_ok X (dk rfl) rfl (show ((5 : Nat) : Int) + 7 = ((12 : Nat) : Int) from rfl) (fun q => absurd q bI_f) (fun _ => ?_)
    refine fst1_ok X (dk rfl) rfl ?_
    refine br_ok X (dk rfl) rfl (show ((9 : Nat) : Int) + 4 = ((13 : Nat) : Int) from rfl) (fun _ => ?_) (fun q => absurd trivial q)
    exact mid1 true (fun z => by cases z) (fun _ hh => absurd (hh) (mid1n0 rfl))
  | true =>
    refine br_ok X (dk rfl) rfl (show ((5 : Nat) : Int) + 7 = ((12 : Nat) : Int) from rfl) (fun _ => ?_) (fun q => absurd bI_t q)
    refine fst1_ok X (dk rfl) rfl ?_
    exact mid1 false (fun _ => mid1h0 rfl) (fun z => by cases z)
set_option maxHeartbeats 4000000 in
theorem RF.x_told_ (h : AH) (M : MD h o S A sl an da dr kn th) (x1 : Int32) : CT la D cA B0 pa yX10_told_ cX10_told_ 7 (some .int) (rmD 4 24 24) [.ref o, .int x1] h (fun v h' => v = some (.int (if x1 = Int32.ofInt 3 then nI (szN sl 6) else mvN an 3)) ∧ MC o S A sl an da dr kn th h h') := by
  refine CT_of (by decide +kernel) (Nat.le_of_ble_eq_true rfl) ?_
  intro p e s m args below meth c X E hr hlk hnm
  have dk : ∀ {pc : Nat} {q : Instr × Nat}, lkd DX10_told_ pc = some q → decode cX10_told_ pc = .ok q := lkd_ok DX10_told__ok
  obtain ⟨ss, s1, s2, s3⟩ := M.slot
  obtain ⟨as, a1, a2, a3⟩ := M.ans
  have loopS : ∀ (d i : Nat), d = 6 - i → i ≤ 6 → ∀ (z : Int32) (l : List (Nat × Value)), z = nI (szN sl i) → x1 = Int32.ofInt 3 → lsel l [5, 4, 3, 2] = [(5, vI i), (4, vI 6), (3, .ref S), (2, .int z)] → WR p la e (rmD 4 24 24) s m args below meth c D cA B0 7 (fun v h' => v = some (.int (if x1 = Int32.ofInt 3 then nI (szN sl 6) else mvN an 3)) ∧ MC o S A sl an da dr kn th h h') 19 l [] h 0 0 := by
    intro d
    induction d with
    | zero =>
      intro i hd hi z l ez hq3 hl
      have hi2 : i = 6 := by omega
      subst hi2
      refine WS.sel [5, 4, 3, 2] hl ?_
      repeat refine fst1_ok X (dk rfl) rfl ?_
      refine br_ok X (dk rfl) rfl (show ((23 : Nat) : Int) + 21 = ((44 : Nat) : Int) from rfl) (fun _ => ?_) (fun c1 => absurd (Int32.le_refl _) c1)
      refine br_ok X (dk rfl) rfl (show ((44 : Nat) : Int) + 45 = ((89 : Nat) : Int) from rfl) (fun _ => ?_) (fun q => absurd trivial q)
      repeat refine fst1_ok X (dk rfl) rfl ?_
      exact reti_ok X hr hlk rfl (dk rfl) ⟨by rw [if_pos hq3, ez], M, Fr.rf h⟩ (Nat.zero_le _) (Nat.zero_le _)
    | succ d ih =>
      intro i hd hi z l ez hq3 hl
      obtain ⟨b, x, e1, e2, e3, e4, e5⟩ := s3 i (by omega)
      have f2 : Value.int (nI i + Int32.ofInt 1) = vI (i + 1) := congrArg Value.int (by rw [nI_1', nI_add])
      refine WS.sel [5, 4, 3, 2] hl ?_
      repeat refine fst1_ok X (dk rfl) rfl ?_
      refine br_ok X (dk rfl) rfl (show ((23 : Nat) : Int) + 21 = ((44 : Nat) : Int) from rfl) (fun c1 => absurd c1 (nI_ge (a := i) (b := 6) (by omega) (by omega))) (fun _ => ?_)
      repeat refine fst1_ok X (dk rfl) rfl ?_
      refine ldr_ok X (dk rfl) s2 e1 (by omega) ?_
      repeat refine fst1_ok X (dk rfl) rfl ?_
      refine alen_ok X (by decide) (dk rfl) e3 ?_
      rw [show (x.map vI).length = x.length from List.length_map _]
      repeat refine fst1_ok X (dk rfl) rfl ?_
      refine br_ok X (dk rfl) rfl (show ((41 : Nat) : Int) + (-22) = ((19 : Nat) : Int) from rfl) (fun _ => ?_) (fun q => absurd trivial q)
      refine WS.sel (l' := [(5, vI (i + 1)), (4, vI 6), (3, .ref S), (2, .int (z + nI x.length))]) [5, 4, 3, 2] (by rw [← f2]; rfl) ?_
      exact ih (i + 1) (by omega) (by omega) _ _ (by rw [ez, nI_add]; show nI (szN sl i + x.length) = nI (szN sl i + (sl.getD i []).length); rw [getD_of e2]) hq3 rfl
  have loopA : ∀ (d i : Nat), d = 3 - i → i ≤ 3 → ∀ (z : Int32) (hh : AH) (l : List (Nat × Value)), z = mvN an i → ¬ x1 = Int32.ofInt 3 → lsel l [5, 4, 3, 2] = [(5, vI i), (4, vI 3), (3, .ref A), (2, .int z)] → Ext h hh → WR p la e (rmD 4 24 24) s m args below meth c D cA B0 7 (fun v h' => v = some (.int (if x1 = Int32.ofInt 3 then nI (szN sl 6) else mvN an 3)) ∧ MC o S A sl an da dr kn th h h') 59 l [] hh (8 * i) (8 * i) := by
    intro d
    induction d with
    | zero =>
      intro i hd hi z hh l ez hq3 hl XX
      have hi2 : i = 3 := by omega
      subst hi2
      refine WS.sel [5, 4, 3, 2] hl ?_
      repeat refine fst1_ok X (dk rfl) rfl ?_
      refine br_ok X (dk rfl) rfl (show ((63 : Nat) : Int) + 26 = ((89 : Nat) : Int) from rfl) (fun _ => ?_) (fun c1 => absurd (Int32.le_refl _) c1)
      repeat refine fst1_ok X (dk rfl) rfl ?_
      exact reti_ok X hr hlk rfl (dk rfl) ⟨by rw [if_neg hq3, ez], M.ext XX, Fr.ext XX⟩ (Nat.le_of_ble_eq_true rfl) (Nat.le_of_ble_eq_true rfl)
    | succ d ih =>
      intro i hd hi z hh l ez hq3 hl XX
      obtain ⟨b, x, e1, e2, e3, e4, e5⟩ := a3 i (by omega)
      have f2 : Value.int (nI i + Int32.ofInt 1) = vI (i + 1) := congrArg Value.int (by rw [nI_1', nI_add])
      refine WS.sel [5, 4, 3, 2] hl ?_
      repeat refine fst1_ok X (dk rfl) rfl ?_
      refine br_ok X (dk rfl) rfl (show ((63 : Nat) : Int) + 26 = ((89 : Nat) : Int) from rfl) (fun c1 => absurd c1 (nI_ge (a := i) (b := 3) (by omega) (by omega))) (fun _ => ?_)
      repeat refine fst1_ok X (dk rfl) rfl ?_
      refine lda_ok X (dk rfl) (XX _ _ a2) e1 (by omega) ?_
      repeat refine fst1_ok X (dk rfl) rfl ?_
      refine callS_ok (av := [.ref b]) (r := [.int z]) X E (c_movedBy hh (e3.ext XX) e4) lkX10_movedBy mlX10_141 lsX10_movedBy ⟨Nat.le_of_ble_eq_true rfl, Nat.le_of_ble_eq_true rfl⟩ ⟨by show 8 * i + 8 ≤ 24; omega, by show 8 * i + 8 ≤ 24; omega⟩ (Nat.le_of_ble_eq_true rfl) (dk rfl) ?_
      rintro v h2 ⟨rfl, E2⟩
      refine callS_ok (av := [vI (movedN x 8)]) (r := [.int z]) X E (c_ones h2 (nI (movedN x 8))) lkX10_ones mlX10_128 lsX10_ones ⟨Nat.le_of_ble_eq_true rfl, Nat.le_of_ble_eq_true rfl⟩ ⟨by show 8 * i + 8 ≤ 24; omega, by show 8 * i + 8 ≤ 24; omega⟩ (Nat.le_of_ble_eq_true rfl) (dk rfl) ?_
      rintro v h3 ⟨rfl, rfl⟩
      repeat refine fst1_ok X (dk rfl) rfl ?_
      refine br_ok X (dk rfl) rfl (show ((86 : Nat) : Int) + (-27) = ((59 : Nat) : Int) from rfl) (fun _ => ?_) (fun q => absurd trivial q)
      refine WS.sel (l' := [(5, vI (i + 1)), (4, vI 3), (3, .ref A), (2, .int (z + bcF (nI (movedN x 8))))]) [5, 4, 3, 2] (by rw [← f2]; rfl) ?_
      refine WS.widen (k' := 8 * (i + 1)) (n' := 8 * (i + 1)) (by show 8 * i + 8 ≤ 8 * (i + 1); omega) (by show 8 * i + 8 ≤ 8 * (i + 1); omega) ?_
      exact ih (i + 1) (by omega) (by omega) _ _ _ (by rw [ez]; show mvN an i + _ = mvN an i + bcF (nI (movedN (an.getD i []) 8)); rw [getD_of e2]) hq3 rfl (XX.trans E2)
  repeat refine fst1_ok X (dk rfl) rfl ?_
  refine br_ok X (dk rfl) rfl (show ((4 : Nat) : Int) + 43 = ((47 : Nat) : Int) from rfl) (fun c3 => ?_) (fun c3 => ?_)
  · repeat refine fst1_ok X (dk rfl) rfl ?_
    refine getf_ok X flX10_16 (dk rfl) M.obj rfl ?_
    iterate 2 refine fst1_ok X (dk rfl) rfl ?_
    refine alen_ok X (by decide) (dk rfl) a2 ?_
    rw [show (as.map Value.ref).length = 3 by rw [List.length_map]; omega]
    iterate 3 refine fst1_ok X (dk rfl) rfl ?_
    exact loopA 3 0 rfl (Nat.zero_le _) _ _ _ (by show Int32.ofInt 0 = (0 : Int32); decide) c3 rfl (Ext.rf h)
  · repeat refine fst1_ok X (dk rfl) rfl ?_
    refine getf_ok X flX10_11 (dk rfl) M.obj rfl ?_
    iterate 2 refine fst1_ok X (dk rfl) rfl ?_
    refine alen_ok X (by decide) (dk rfl) s2 ?_
    rw [show (ss.map Value.ref).length = 6 by rw [List.length_map]; omega]
    iterate 3 refine fst1_ok X (dk rfl) rfl ?_
    exact loopS 6 0 rfl (Nat.zero_le _) _ _ nI_0' (Decidable.not_not.mp c3) rfl
set_option maxHeartbeats 4000000 in
theorem RF.x_house (h : AH) (M : MD h o S A sl an da dr kn th) (x1 : Int32) : CT la D cA B0 pa yX10_house cX10_house 2 (some .int) (rmD 5 24 24) [.ref o, .int x1] h (refR o S A kn (aHouse kn x1 (sl, an, da, dr)) h) := by
  refine CT_of (by decide +kernel) (Nat.le_of_ble_eq_true rfl) ?_
  intro p e s m args below meth c X E hr hlk hnm
  have dk : ∀ {pc : Nat} {q : Instr × Nat}, lkd DX10_house pc = some q → decode cX10_house pc = .ok q := lkd_ok DX10_house_ok
  have mid1 : ∀ t1 : Bool, (t1 = false → inN 5 x1) → (t1 = true → ¬ (inN 5 x1)) → WR p la e (rmD 5 24 24) s m args below meth c D cA B0 2 (refR o S A kn (aHouse kn x1 (sl, an, da, dr)) h) 15 (lv_args 0 [.ref o, .int x1]) [.int (bI t1), .ref o] h 0 0 := by
    intro t1 ht1 hn1
    refine thr1_ok X E M ⟨Nat.le_of_ble_eq_true rfl, Nat.le_of_ble_eq_true rfl⟩ ⟨Nat.le_of_ble_eq_true rfl, Nat.le_of_ble_eq_true rfl⟩ (Nat.le_of_ble_eq_true rfl) (dk rfl) (fun h1 M1 F1 => ?_)
    cases hb : t1 with
    | true =>
      have hT1 : ¬ (inN 5 x1) → aHouse kn x1 (sl, an, da, dr) = ((1, 0), (sl, an, da, dr)) := (fun hn => by
          unfold aHouse
          by_cases q0 : okI 5 x1 = true
          rotate_left
          · exact if_neg q0
          rw [if_pos q0]
          exact absurd (okI_in (by decide) q0) hn)
      have hE : aHouse kn x1 (sl, an, da, dr) = ((thI t1 false, 0), (sl, an, da, dr)) := by
        rw [hb]
        exact hT1 (hn1 hb)
      refine br_ok X (dk rfl) rfl (show ((18 : Nat) : Int) + 7 = ((25 : Nat) : Int) from rfl) (fun q => absurd q bI_t) (fun _ => ?_)
      refine fst1_ok X (dk rfl) rfl ?_
      refine br_ok X (dk rfl) rfl (show ((22 : Nat) : Int) + 43 = ((65 : Nat) : Int) from rfl) (fun _ => ?_) (fun q => absurd trivial q)
      exact reti_ok X hr hlk rfl (dk rfl) (refR_thr M1 F1 hE (by decide +kernel)) (Nat.zero_le _) (Nat.zero_le _)
    | false =>
      refine br_ok X (dk rfl) rfl (show ((18 : Nat) : Int) + 7 = ((25 : Nat) : Int) from rfl) (fun _ => ?_) (fun q => absurd bI_f' q)
      obtain ⟨j1, hj1, rfl⟩ := ht1 hb
      have M1 : MD h1 o S A sl an da dr kn (nI 0) := by
        rw [hb] at M1
        exact M1
      obtain ⟨ss, s1, s2, s3⟩ := M1.slot
      obtain ⟨as, a1, a2, a3⟩ := M1.ans
      refine fst1_ok X (dk rfl) rfl ?_
      refine br_ok X (dk rfl) rfl (show ((26 : Nat) : Int) + 10 = ((36 : Nat) : Int) from rfl) (fun c1 => ?_) (fun c1 => ?_)
      · repeat refine fst1_ok X (dk rfl) rfl ?_
        refine br_ok X (dk rfl) rfl (show ((38 : Nat) : Int) + 10 = ((48 : Nat) : Int) from rfl) (fun c2 => ?_) (fun c2 => ?_)
        · repeat refine fst1_ok X (dk rfl) rfl ?_
          refine br_ok X (dk rfl) rfl (show ((50 : Nat) : Int) + 10 = ((60 : Nat) : Int) from rfl) (fun c3 => ?_) (fun c3 => ?_)
          · repeat refine fst1_ok X (dk rfl) rfl ?_
            refine callV_ok (ci := 12) (T := TX10) (N := 6) (av := [vI j1]) (r := []) X E (x_told_ h1 M1 (nI j1)) lkX10_told_ mlX10_221 lmX10_told_ lpX10_told_ ⟨Nat.le_of_ble_eq_true rfl, Nat.le_of_ble_eq_true rfl⟩ ⟨Nat.le_of_ble_eq_true rfl, Nat.le_of_ble_eq_true rfl⟩ rfl M1.obj (Nat.le_of_ble_eq_true rfl) (dk rfl) ?_
            rintro v h2 ⟨rfl, M9, F9⟩
            exact reti_ok X hr hlk rfl (dk rfl) (refR_ok M9 ((F1).trans F9) (by unfold aHouse; (try dsimp only); rw [if_pos (okI_t hj1 (by decide)), xI_n (by omega)]; rw [hs_told c1 c2 c3 hj1]; first | done | rfl)) (Nat.le_of_ble_eq_true rfl) (Nat.le_of_ble_eq_true rfl)
          · refine fst1_ok X (dk rfl) rfl ?_
            refine getf_ok X flX10_218 (dk rfl) M1.obj rfl ?_
            refine br_ok X (dk rfl) rfl (show ((57 : Nat) : Int) + 8 = ((65 : Nat) : Int) from rfl) (fun _ => ?_) (fun q => absurd trivial q)
            exact reti_ok X hr hlk rfl (dk rfl) (refR_ok M1 (F1) (by unfold aHouse; (try dsimp only); rw [if_pos (okI_t hj1 (by decide)), xI_n (by omega)]; rw [show j1 = 2 from nI_at (b := 2) (by omega) (by decide) nI_2 (Decidable.not_not.mp c3)]; rfl)) (Nat.le_of_ble_eq_true rfl) (Nat.le_of_ble_eq_true rfl)
        · refine fst1_ok X (dk rfl) rfl ?_
          refine getf_ok X flX10_85 (dk rfl) M1.obj rfl ?_
          refine br_ok X (dk rfl) rfl (show ((45 : Nat) : Int) + 20 = ((65 : Nat) : Int) from rfl) (fun _ => ?_) (fun q => absurd trivial q)
          exact reti_ok X hr hlk rfl (dk rfl) (refR_ok M1 (F1) (by unfold aHouse; (try dsimp only); rw [if_pos (okI_t hj1 (by decide)), xI_n (by omega)]; rw [show j1 = 1 from nI_at (b := 1) (by omega) (by decide) nI_1' (Decidable.not_not.mp c2)]; rfl)) (Nat.le_of_ble_eq_true rfl) (Nat.le_of_ble_eq_true rfl)
      · refine fst1_ok X (dk rfl) rfl ?_
        refine getf_ok X flX10_82 (dk rfl) M1.obj rfl ?_
        refine br_ok X (dk rfl) rfl (show ((33 : Nat) : Int) + 32 = ((65 : Nat) : Int) from rfl) (fun _ => ?_) (fun q => absurd trivial q)
        exact reti_ok X hr hlk rfl (dk rfl) (refR_ok M1 (F1) (by unfold aHouse; (try dsimp only); rw [if_pos (okI_t hj1 (by decide)), xI_n (by omega)]; rw [show j1 = 0 from nI_at (b := 0) (by omega) (by decide) (by decide) (Decidable.not_not.mp c1)]; rfl)) (Nat.le_of_ble_eq_true rfl) (Nat.le_of_ble_eq_true rfl)
  iterate 2 refine fst1_ok X (dk rfl) rfl ?_
  have mid1T : ¬ inN 5 x1 → ∀ l : List (Nat × Value), l = (lv_args 0 [.ref o, .int x1]) → WR p la e (rmD 5 24 24) s m args below meth c D cA B0 2 (refR o S A kn (aHouse kn x1 (sl, an, da, dr)) h) 10 l [.ref o] h 0 0 := by
    intro hx l hl
    rw [hl]
    refine fst1_ok X (dk rfl) rfl ?_
    refine br_ok X (dk rfl) rfl (show ((11 : Nat) : Int) + 4 = ((15 : Nat) : Int) from rfl) (fun _ => ?_) (fun q => absurd trivial q)
    exact mid1 true (fun z => by cases z) (fun _ => hx)
  refine br_ok X (dk rfl) rfl (show ((2 : Nat) : Int) + 8 = ((10 : Nat) : Int) from rfl) (fun c0 => mid1T (fun z => inN_pos z (by decide) c0) _ rfl) (fun c1 => ?_)
  iterate 2 refine fst1_ok X (dk rfl) rfl ?_
  refine br_ok X (dk rfl) rfl (show ((7 : Nat) : Int) + 7 = ((14 : Nat) : Int) from rfl) (fun c2 => ?_) (fun c0 => mid1T (fun z => c0 (by rw [show Int32.ofInt 4 = nI 4 by decide +kernel]; exact inN_leN z (by decide))) _ rfl)
  refine fst1_ok X (dk rfl) rfl ?_
  exact mid1 false (fun _ => inN_le (K := 4) (by omega) c1 (by rw [show nI 4 = Int32.ofInt 4 by decide +kernel]; exact c2)) (fun z => by cases z)
end R14
