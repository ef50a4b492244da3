/-! digest -/
def lonR (o S A : Nat) (kn : Int32) (h : AH) (v : Option Value) (h' : AH) : Prop := (∃ x : Int64, v = some (.long x)) ∧ MI o S A kn h h'
theorem cs10_230 : Cond.constantLong RX10 230 8024 ∈ WT := WT_of (by decide +kernel) rfl
section M81
variable {la : Launch} {D : va_G} {cA : Nat → ClassId} {B0 pa : Nat}
variable {o S A : Nat} {sl : List (List Nat)} {an : List (List (List Nat))} {a r kn th : Int32}
set_option maxHeartbeats 16000000 in
theorem c_digest (h : AH) (M : MD h o S A sl an a r kn th) : CT la D cA B0 pa yX10_digest cX10_digest 9 (some .long) (rmD 86 8500 97199) [.ref o] h (lonR o S A kn h) := by
  refine CT_of (by decide +kernel) (Nat.le_of_ble_eq_true rfl) ?_
  intro p e s m args below meth c X E hr hlk hnm
  have dk : ∀ {pc : Nat} {q : Instr × Nat}, lkd DX10_digest pc = some q → decode cX10_digest pc = .ok q := lkd_ok DX10_digest_ok
  have addS : ∀ (pc : Nat) (l : List (Nat × Value)) (r : List Value) (hh : AH) (k n : Nat) (d v : Int64), decode cX10_digest pc = .ok (.invokestatic 226, 3) → (r.map fun v => v.category).sum ≤ 8 → k ≤ 8500 → n ≤ 97199 → (∀ z : Int64, WR p la e (rmD 86 8500 97199) s m args below meth c D cA B0 9 (lonR o S A kn h) (pc + 3) l (.long z :: r) hh k n) → WR p la e (rmD 86 8500 97199) s m args below meth c D cA B0 9 (lonR o S A kn h) pc l (.long v :: .long d :: r) hh k n := by
    intro pc l r hh k n d v hd hw hk hn kk
    refine callS_ok (av := [.long d, .long v]) (r := r) X E (c_add hh d v) lkX10_add mlX10_226 lsX10_add ⟨Nat.le_of_ble_eq_true rfl, Nat.le_of_ble_eq_true rfl⟩ ⟨hk, hn⟩ hw hd ?_
    rintro v2 h2 ⟨rfl, rfl⟩
    exact kk _
  have tail : ∀ (hh : AH) (a1 r1 th1 : Int32) (l : List (Nat × Value)) (z : Int64), lsel l [1, 0] = [(1, .long z), (0, .ref o)] → MD hh o S A sl an a1 r1 kn th1 → Fr o S A h hh → WR p la e (rmD 86 8500 97199) s m args below meth c D cA B0 9 (lonR o S A kn h) 183 l [] hh 30 30 := by
    intro hh a1 r1 th1 l z hl M1 F1
    obtain ⟨ss, s1, s2, s3⟩ := M1.slot
    obtain ⟨b1, y1, e1, f1, g1, w1, n1⟩ := s3 0 (by omega)
    obtain ⟨b2, y2, e2, f2, g2, w2, n2⟩ := s3 1 (by omega)
    obtain ⟨G, hG, -, gc, gn, -⟩ := goE ⟨w1, n1⟩ ⟨w2, n2⟩
    refine WS.sel [1, 0] hl ?_
    refine new_ok X nc10_157 (dk rfl) (Nat.le_of_ble_eq_true rfl) (Nat.le_of_ble_eq_true rfl) (fun u hu hBu => ?_)
    have XU := Ext.new hu ((11, [Value.null, .int 0, .int 0]) : AC)
    repeat refine fst1_ok X (dk rfl) rfl ?_
    refine getf_ok X flX10_11 (dk rfl) (XU _ _ M1.obj) rfl ?_
    refine fst1_ok X (dk rfl) rfl ?_
    refine ldr_ok X (j := 0) (dk rfl) (XU _ _ s2) e1 (by omega) ?_
    refine fst1_ok X (dk rfl) rfl ?_
    refine getf_ok X flX10_11 (dk rfl) (XU _ _ M1.obj) rfl ?_
    refine fst1_ok X (dk rfl) rfl ?_
    refine ldr_ok X (j := 1) (dk rfl) (XU _ _ s2) e2 (by omega) ?_
    refine callI_ok (av := [.ref b1, .ref b2]) (r := [.ref u]) X E (c_stepsInit _ (hup_self _ _ _) (XU _ _ g1) (XU _ _ g2) ⟨w1, n1⟩ ⟨w2, n2⟩ hG) lkX9_init mlX10_159 lmX9_init rfl ⟨Nat.le_of_ble_eq_true rfl, Nat.le_of_ble_eq_true rfl⟩ ⟨by show 30 + 1 + (1 + G.2.2.2.1) ≤ 8500; omega, by show 30 + 3 + (8 + G.2.2.2.2) ≤ 97199; omega⟩ (Nat.le_of_ble_eq_true rfl) (dk rfl) ?_
    rintro v h2 ⟨rfl, ⟨St, hSt, M2⟩, F2⟩
    have X2 : Ext hh h2 := fun b c e => F2 b c (fun z => by rw [z, hu] at e; cases e) (XU _ _ e)
    refine WS.widen (k' := 8452) (n' := 97151) (by show 30 + 1 + (1 + G.2.2.2.1) ≤ 8452; omega) (by show 30 + 3 + (8 + G.2.2.2.2) ≤ 97151; omega) ?_
    have M3 := M1.ext X2
    repeat refine fst1_ok X (dk rfl) rfl ?_
    refine getfN_ok X E.2.1 fnX10_211 (dk rfl) M2.1 rfl ?_
    refine fst1_ok X (dk rfl) rfl ?_
    refine addS _ _ _ _ _ _ _ _ (dk rfl) (Nat.le_of_ble_eq_true rfl) (by omega) (by omega) (fun z => ?_)
    refine fst1_ok X (dk rfl) rfl ?_
    refine getfN_ok X E.2.1 fnX10_204 (dk rfl) M2.1 rfl ?_
    refine fst1_ok X (dk rfl) rfl ?_
    refine addS _ _ _ _ _ _ _ _ (dk rfl) (Nat.le_of_ble_eq_true rfl) (by omega) (by omega) (fun z => ?_)
    repeat refine fst1_ok X (dk rfl) rfl ?_
    refine getf_ok X flX10_82 (dk rfl) M3.obj rfl ?_
    refine fst1_ok X (dk rfl) rfl ?_
    refine addS _ _ _ _ _ _ _ _ (dk rfl) (Nat.le_of_ble_eq_true rfl) (by omega) (by omega) (fun z => ?_)
    refine fst1_ok X (dk rfl) rfl ?_
    refine getf_ok X flX10_85 (dk rfl) M3.obj rfl ?_
    refine fst1_ok X (dk rfl) rfl ?_
    refine addS _ _ _ _ _ _ _ _ (dk rfl) (Nat.le_of_ble_eq_true rfl) (by omega) (by omega) (fun z => ?_)
    refine fst1_ok X (dk rfl) rfl ?_
    refine getf_ok X flX10_218 (dk rfl) M3.obj rfl ?_
    refine fst1_ok X (dk rfl) rfl ?_
    refine addS _ _ _ _ _ _ _ _ (dk rfl) (Nat.le_of_ble_eq_true rfl) (by omega) (by omega) (fun z => ?_)
    repeat refine fst1_ok X (dk rfl) rfl ?_
    refine callV_ok (ci := 12) (T := TX10) (N := 6) (av := [.int _]) (r := [.long _]) X E (c_told_ h2 M3 _) lkX10_told_ mlX10_221 lmX10_told_ lpX10_told_ ⟨Nat.le_of_ble_eq_true rfl, Nat.le_of_ble_eq_true rfl⟩ ⟨Nat.le_of_ble_eq_true rfl, Nat.le_of_ble_eq_true rfl⟩ rfl M3.obj (Nat.le_of_ble_eq_true rfl) (dk rfl) ?_
    rintro v h3 ⟨⟨w3, rfl⟩, ⟨_, _, _, _, _, M4⟩, F4⟩
    refine WS.widen (k' := 8476) (n' := 97175) (Nat.le_of_ble_eq_true rfl) (Nat.le_of_ble_eq_true rfl) ?_
    refine fst1_ok X (dk rfl) rfl ?_
    refine addS _ _ _ _ _ _ _ _ (dk rfl) (Nat.le_of_ble_eq_true rfl) (by omega) (by omega) (fun z => ?_)
    iterate 2 refine fst1_ok X (dk rfl) rfl ?_
    refine callV_ok (ci := 12) (T := TX10) (N := 6) (av := [.int _]) (r := [.long _]) X E (c_told_ h3 M4 _) lkX10_told_ mlX10_221 lmX10_told_ lpX10_told_ ⟨Nat.le_of_ble_eq_true rfl, Nat.le_of_ble_eq_true rfl⟩ ⟨Nat.le_of_ble_eq_true rfl, Nat.le_of_ble_eq_true rfl⟩ rfl M4.obj (Nat.le_of_ble_eq_true rfl) (dk rfl) ?_
    rintro v h4 ⟨⟨w4, rfl⟩, ⟨_, _, _, _, _, M5⟩, F5⟩
    refine WS.widen (k' := 8500) (n' := 97199) (Nat.le_of_ble_eq_true rfl) (Nat.le_of_ble_eq_true rfl) ?_
    refine fst1_ok X (dk rfl) rfl ?_
    refine addS _ _ _ _ _ _ _ _ (dk rfl) (Nat.le_of_ble_eq_true rfl) (by omega) (by omega) (fun z => ?_)
    refine fst1_ok X (dk rfl) rfl ?_
    refine addS _ _ _ _ _ _ _ _ (dk rfl) (Nat.le_of_ble_eq_true rfl) (by omega) (by omega) (fun z => ?_)
    exact retl_ok X hr hlk (dk rfl) ⟨⟨_, rfl⟩, ⟨_, _, _, _, _, M5⟩, F1.trans ((Fr.ext X2).trans (F4.trans F5))⟩ (Nat.le_of_ble_eq_true rfl) (Nat.le_of_ble_eq_true rfl)
  have loopA : ∀ (d i : Nat), d = 3 - i → i ≤ 3 → ∀ (hh : AH) (a1 r1 th1 : Int32) (l : List (Nat × Value)) (z : Int64), lsel l [5, 4, 3, 1, 0] = [(5, vI i), (4, vI 3), (3, .ref A), (1, .long z), (0, .ref o)] → MD hh o S A sl an a1 r1 kn th1 → Fr o S A h hh → WR p la e (rmD 86 8500 97199) s m args below meth c D cA B0 9 (lonR o S A kn h) 96 l [] hh (6 + 8 * i) (6 + 8 * i) := by
    intro d
    induction d with
    | zero =>
      intro i hd hi hh a1 r1 th1 l z hl M1 F1
      have hi2 : i = 3 := by omega
      subst hi2
      refine WS.sel [5, 4, 3, 1, 0] hl ?_
      repeat refine fst1_ok X (dk rfl) rfl ?_
      refine br_ok X (dk rfl) rfl (show ((100 : Nat) : Int) + 83 = ((183 : Nat) : Int) from rfl) (fun _ => ?_) (fun c1 => absurd (Int32.le_refl _) c1)
      exact tail hh a1 r1 th1 _ z rfl M1 F1
    | succ d ih =>
      intro i hd hi hh a1 r1 th1 l z hl M1 F1
      obtain ⟨as, a1x, a2, a3⟩ := M1.ans
      obtain ⟨b1, y1, e1, f1, g1, w1, n1⟩ := a3 i (by omega)
      obtain ⟨as1, as2, as3, as4⟩ := g1.row
      have f2 : Value.int (nI i + Int32.ofInt 1) = vI (i + 1) := congrArg Value.int (by rw [nI_1', nI_add])
      refine WS.sel [5, 4, 3, 1, 0] hl ?_
      repeat refine fst1_ok X (dk rfl) rfl ?_
      refine br_ok X (dk rfl) rfl (show ((100 : Nat) : Int) + 83 = ((183 : Nat) : Int) from rfl) (fun c1 => absurd c1 (nI_ge (a := i) (b := 3) (by omega) (by omega))) (fun _ => ?_)
      repeat refine fst1_ok X (dk rfl) rfl ?_
      refine lda_ok X (dk rfl) a2 e1 (by omega) ?_
      repeat refine fst1_ok X (dk rfl) rfl ?_
      refine callS_ok (av := [.ref b1]) (r := []) X E (c_movedBy hh g1 w1) lkX10_movedBy mlX10_141 lsX10_movedBy ⟨Nat.le_of_ble_eq_true rfl, Nat.le_of_ble_eq_true rfl⟩ ⟨by show 6 + 8 * i + 8 ≤ 8500; omega, by show 6 + 8 * i + 8 ≤ 97199; omega⟩ (Nat.le_of_ble_eq_true rfl) (dk rfl) ?_
      rintro v h2 ⟨rfl, E1⟩
      have hm := movedN_lt y1 8
      generalize movedN y1 8 = mm at hm
      have M2 := M1.ext E1
      have F2 := F1.trans (Fr.ext E1)
      refine WS.widen (k' := 6 + 8 * (i + 1)) (n' := 6 + 8 * (i + 1)) (by show 6 + 8 * i + 8 ≤ 6 + 8 * (i + 1); omega) (by show 6 + 8 * i + 8 ≤ 6 + 8 * (i + 1); omega) ?_
      repeat refine fst1_ok X (dk rfl) rfl ?_
      refine addS _ _ _ _ _ _ _ _ (dk rfl) (Nat.le_of_ble_eq_true rfl) (by omega) (by omega) (fun z => ?_)
      iterate 3 refine fst1_ok X (dk rfl) rfl ?_
      have loopK : ∀ (d8 j : Nat), d8 = 8 - j → j ≤ 8 → ∀ (l : List (Nat × Value)) (z : Int64), lsel l [8, 7, 6, 5, 4, 3, 1, 0] = [(8, vI j), (7, vI mm), (6, .ref b1), (5, vI i), (4, vI 3), (3, .ref A), (1, .long z), (0, .ref o)] → WR p la e (rmD 86 8500 97199) s m args below meth c D cA B0 9 (lonR o S A kn h) 127 l [] h2 (6 + 8 * (i + 1)) (6 + 8 * (i + 1)) := by
        intro d8
        induction d8 with
        | zero =>
          intro j hd8 hj l z hl
          have hj2 : j = 8 := by omega
          subst hj2
          refine WS.sel [8, 7, 6, 5, 4, 3, 1, 0] hl ?_
          repeat refine fst1_ok X (dk rfl) rfl ?_
          refine br_ok X (dk rfl) rfl (show ((131 : Nat) : Int) + 46 = ((177 : Nat) : Int) from rfl) (fun _ => ?_) (fun c1 => absurd (by decide) c1)
          repeat refine fst1_ok X (dk rfl) rfl ?_
          refine br_ok X (dk rfl) rfl (show ((180 : Nat) : Int) + (-84) = ((96 : Nat) : Int) from rfl) (fun _ => ?_) (fun q => absurd trivial q)
          refine WS.sel (l' := [(5, vI (i + 1)), (4, vI 3), (3, .ref A), (1, .long z), (0, .ref o)]) [5, 4, 3, 1, 0] (by rw [← f2]; rfl) ?_
          exact ih (i + 1) (by omega) (by omega) h2 a1 r1 th1 _ z rfl M2 F2
        | succ d8 ih8 =>
          intro j hd8 hj l z hl
          obtain ⟨c5, z5, i5, i6, i7⟩ := as4 j (by rw [w1.1]; omega)
          have t5 := w1.2 z5 (List.mem_of_getElem? i6)
          have f3 : Value.int (nI j + Int32.ofInt 1) = vI (j + 1) := congrArg Value.int (by rw [nI_1', nI_add])
          refine WS.sel [8, 7, 6, 5, 4, 3, 1, 0] hl ?_
          repeat refine fst1_ok X (dk rfl) rfl ?_
          refine br_ok X (dk rfl) rfl (show ((131 : Nat) : Int) + 46 = ((177 : Nat) : Int) from rfl) (fun c1 => absurd c1 (nI_ge (a := j) (b := 8) (by omega) (by omega))) (fun _ => ?_)
          have nxt : ∀ (l : List (Nat × Value)) (z : Int64), lsel l [8, 7, 6, 5, 4, 3, 1, 0] = [(8, vI j), (7, vI mm), (6, .ref b1), (5, vI i), (4, vI 3), (3, .ref A), (1, .long z), (0, .ref o)] → WR p la e (rmD 86 8500 97199) s m args below meth c D cA B0 9 (lonR o S A kn h) 171 l [] h2 (6 + 8 * (i + 1)) (6 + 8 * (i + 1)) := by
            intro l z hl
            refine WS.sel [8, 7, 6, 5, 4, 3, 1, 0] hl ?_
            refine fst1_ok X (dk rfl) rfl ?_
            refine br_ok X (dk rfl) rfl (show ((174 : Nat) : Int) + (-47) = ((127 : Nat) : Int) from rfl) (fun _ => ?_) (fun q => absurd trivial q)
            refine WS.sel (l' := [(8, vI (j + 1)), (7, vI mm), (6, .ref b1), (5, vI i), (4, vI 3), (3, .ref A), (1, .long z), (0, .ref o)]) [8, 7, 6, 5, 4, 3, 1, 0] (by rw [← f3]; rfl) ?_
            exact ih8 (j + 1) (by omega) (by omega) _ z rfl
          repeat refine fst1_ok X (dk rfl) rfl ?_
          rw [bit8 (by omega) (by omega)]
          refine br_ok X (dk rfl) rfl (show ((142 : Nat) : Int) + 29 = ((171 : Nat) : Int) from rfl) (fun _ => nxt _ z rfl) (fun _ => ?_)
          repeat refine fst1_ok X (dk rfl) rfl ?_
          refine addS _ _ _ _ _ _ _ _ (dk rfl) (Nat.le_of_ble_eq_true rfl) (by omega) (by omega) (fun z => ?_)
          repeat refine fst1_ok X (dk rfl) rfl ?_
          refine ldr_ok X (dk rfl) (E1 _ _ as3) i5 (by rw [as2, w1.1]; decide) ?_
          refine alen_ok X (by decide) (dk rfl) (E1 _ _ i7) ?_
          generalize nI (z5.map vI).length = w5
          refine fst1_ok X (dk rfl) rfl ?_
          refine addS _ _ _ _ _ _ _ _ (dk rfl) (Nat.le_of_ble_eq_true rfl) (by omega) (by omega) (fun z => ?_)
          repeat refine fst1_ok X (dk rfl) rfl ?_
          refine ldr_ok X (dk rfl) (E1 _ _ as3) i5 (by rw [as2, w1.1]; decide) ?_
          refine callS_ok (av := [.long _, .ref c5]) (r := []) X E (c_added h2 _ (E1 _ _ i7) (by have := t5.2; omega)) lkX10_added mlX10_232 lsX10_added ⟨Nat.le_of_ble_eq_true rfl, Nat.le_of_ble_eq_true rfl⟩ ⟨by show 6 + 8 * (i + 1) + 0 ≤ 8500; omega, by show 6 + 8 * (i + 1) + 0 ≤ 97199; omega⟩ (Nat.le_of_ble_eq_true rfl) (dk rfl) ?_
          rintro v h3 ⟨⟨z9, rfl⟩, rfl⟩
          refine fst1_ok X (dk rfl) rfl ?_
          exact nxt _ z9 rfl
      exact loopK 8 0 rfl (by omega) _ _ rfl
  have loopS : ∀ (d i : Nat), d = 6 - i → i ≤ 6 → ∀ (hh : AH) (a1 r1 th1 : Int32) (l : List (Nat × Value)) (z : Int64), lsel l [5, 4, 3, 1, 0] = [(5, vI i), (4, vI 6), (3, .ref S), (1, .long z), (0, .ref o)] → MD hh o S A sl an a1 r1 kn th1 → Fr o S A h hh → WR p la e (rmD 86 8500 97199) s m args below meth c D cA B0 9 (lonR o S A kn h) 21 l [] hh i i := by
    intro d
    induction d with
    | zero =>
      intro i hd hi hh a1 r1 th1 l z hl M1 F1
      have hi2 : i = 6 := by omega
      subst hi2
      obtain ⟨as, a1x, a2, a3⟩ := M1.ans
      have l3 : (as.map Value.ref).length = 3 := by rw [List.length_map]; exact a1x
      refine WS.sel [5, 4, 3, 1, 0] hl ?_
      repeat refine fst1_ok X (dk rfl) rfl ?_
      refine br_ok X (dk rfl) rfl (show ((25 : Nat) : Int) + 59 = ((84 : Nat) : Int) from rfl) (fun _ => ?_) (fun c1 => absurd (Int32.le_refl _) c1)
      refine fst1_ok X (dk rfl) rfl ?_
      refine getf_ok X flX10_16 (dk rfl) M1.obj rfl ?_
      repeat refine fst1_ok X (dk rfl) rfl ?_
      refine alen_ok X (by decide) (dk rfl) a2 ?_
      rw [l3]
      iterate 3 refine fst1_ok X (dk rfl) rfl ?_
      exact loopA 3 0 rfl (by omega) hh a1 r1 th1 _ z rfl M1 F1
    | succ d ih =>
      intro i hd hi hh a1 r1 th1 l z hl M1 F1
      obtain ⟨ss, s1, s2, s3⟩ := M1.slot
      obtain ⟨b1, y1, e1, f1, g1, w1, n1⟩ := s3 i (by omega)
      have f2 : Value.int (nI i + Int32.ofInt 1) = vI (i + 1) := congrArg Value.int (by rw [nI_1', nI_add])
      refine WS.sel [5, 4, 3, 1, 0] hl ?_
      repeat refine fst1_ok X (dk rfl) rfl ?_
      refine br_ok X (dk rfl) rfl (show ((25 : Nat) : Int) + 59 = ((84 : Nat) : Int) from rfl) (fun c1 => absurd c1 (nI_ge (a := i) (b := 6) (by omega) (by omega))) (fun _ => ?_)
      repeat refine fst1_ok X (dk rfl) rfl ?_
      refine ldr_ok X (dk rfl) s2 e1 (by omega) ?_
      repeat refine fst1_ok X (dk rfl) rfl ?_
      refine alen_ok X (by decide) (dk rfl) g1 ?_
      generalize nI (y1.map vI).length = w5
      refine fst1_ok X (dk rfl) rfl ?_
      refine addS _ _ _ _ _ _ _ _ (dk rfl) (Nat.le_of_ble_eq_true rfl) (by omega) (by omega) (fun z => ?_)
      iterate 2 refine fst1_ok X (dk rfl) rfl ?_
      refine callS_ok (av := [.ref b1, vI 0]) (r := [.long _]) X E (c_depthOf hh g1 (by omega) w1.lt 16 0 y1.length (by rw [List.drop_zero]; exact w1.1) (by omega)) lkX10_depthOf mlX10_63 lsX10_depthOf ⟨Nat.le_of_ble_eq_true rfl, Nat.le_of_ble_eq_true rfl⟩ ⟨by show i + 0 ≤ 8500; omega, by show i + 0 ≤ 97199; omega⟩ (Nat.le_of_ble_eq_true rfl) (dk rfl) ?_
      rintro v h2 ⟨⟨w, rfl, -⟩, rfl⟩
      refine WS.widen (k' := i) (n' := i) (Nat.le_refl _) (Nat.le_refl _) ?_
      refine fst1_ok X (dk rfl) rfl ?_
      refine addS _ _ _ _ _ _ _ _ (dk rfl) (Nat.le_of_ble_eq_true rfl) (by omega) (by omega) (fun z => ?_)
      refine fst1_ok X (dk rfl) rfl ?_
      refine callS_ok (av := [.ref b1]) (r := [.long _]) X E (c_sharedOf_ h2 g1 ⟨w1, n1⟩) lkX10_sharedOf_ mlX10_202 lsX10_sharedOf_ ⟨Nat.le_of_ble_eq_true rfl, Nat.le_of_ble_eq_true rfl⟩ ⟨by show i + 1 ≤ 8500; omega, by show i + 1 ≤ 97199; omega⟩ (Nat.le_of_ble_eq_true rfl) (dk rfl) ?_
      rintro v h3 ⟨⟨w2, rfl⟩, E3⟩
      have M3 := M1.ext E3
      refine WS.widen (k' := i + 1) (n' := i + 1) (Nat.le_refl _) (Nat.le_refl _) ?_
      refine fst1_ok X (dk rfl) rfl ?_
      refine addS _ _ _ _ _ _ _ _ (dk rfl) (Nat.le_of_ble_eq_true rfl) (by omega) (by omega) (fun z => ?_)
      iterate 3 refine fst1_ok X (dk rfl) rfl ?_
      refine callS_ok (av := [.ref b1]) (r := [.long _]) X E (c_namesOf h3 (E3 _ _ g1) (by omega) w1.lt) lkX10_namesOf mlX10_124 lsX10_namesOf ⟨Nat.le_of_ble_eq_true rfl, Nat.le_of_ble_eq_true rfl⟩ ⟨by show i + 1 + 0 ≤ 8500; omega, by show i + 1 + 0 ≤ 97199; omega⟩ (Nat.le_of_ble_eq_true rfl) (dk rfl) ?_
      rintro v h4 ⟨rfl, rfl⟩
      refine WS.widen (k' := i + 1) (n' := i + 1) (Nat.le_refl _) (Nat.le_refl _) ?_
      refine fst1_ok X (dk rfl) rfl ?_
      refine addS _ _ _ _ _ _ _ _ (dk rfl) (Nat.le_of_ble_eq_true rfl) (by omega) (by omega) (fun z => ?_)
      refine fst1_ok X (dk rfl) rfl ?_
      refine callS_ok (av := [.long _, .ref b1]) (r := []) X E (c_added h4 _ (E3 _ _ g1) (by omega)) lkX10_added mlX10_232 lsX10_added ⟨Nat.le_of_ble_eq_true rfl, Nat.le_of_ble_eq_true rfl⟩ ⟨by show i + 1 + 0 ≤ 8500; omega, by show i + 1 + 0 ≤ 97199; omega⟩ (Nat.le_of_ble_eq_true rfl) (dk rfl) ?_
      rintro v h5 ⟨⟨z9, rfl⟩, rfl⟩
      iterate 2 refine fst1_ok X (dk rfl) rfl ?_
      refine br_ok X (dk rfl) rfl (show ((81 : Nat) : Int) + (-60) = ((21 : Nat) : Int) from rfl) (fun _ => ?_) (fun q => absurd trivial q)
      refine WS.sel (l' := [(5, vI (i + 1)), (4, vI 6), (3, .ref S), (1, .long z9), (0, .ref o)]) [5, 4, 3, 1, 0] (by rw [← f2]; rfl) ?_
      exact ih (i + 1) (by omega) (by omega) h5 a1 r1 th1 _ z9 rfl M3 (F1.trans (Fr.ext E3))
  iterate 2 refine fst1_ok X (dk rfl) rfl ?_
  refine putf_ok X flX10_28 ftX10_5 (Or.inl rfl) rfl rfl (dk rfl) M.obj (Nat.le_of_ble_eq_true rfl) ?_
  have M1 := M.fld a r kn (Int32.ofInt 0)
  have F1 : Fr o S A h (hup h o (12, [.ref S, .ref A, .int a, .int r, .int kn, .int (Int32.ofInt 0)])) := (Fr.rf h).set (Or.inl rfl) _
  refine ldc2_ok X cs10_230 (dk rfl) ?_
  obtain ⟨ss, s1, s2, s3⟩ := M1.slot
  have l6 : (ss.map Value.ref).length = 6 := by rw [List.length_map]; exact s1
  iterate 2 refine fst1_ok X (dk rfl) rfl ?_
  refine getf_ok X flX10_11 (dk rfl) M1.obj rfl ?_
  iterate 2 refine fst1_ok X (dk rfl) rfl ?_
  refine alen_ok X (by decide) (dk rfl) s2 ?_
  rw [l6]
  iterate 3 refine fst1_ok X (dk rfl) rfl ?_
  exact loopS 6 0 rfl (by omega) _ _ _ _ _ _ rfl M1 F1
end M81
