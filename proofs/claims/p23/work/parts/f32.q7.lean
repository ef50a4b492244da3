/-! isSound() is so (printed by wip/q/genQ7.py) -/
theorem shN_le (X : List Nat) : shN X ≤ X.length := ctF_le _ _
def mcU (B Q P : Nat → Nat) (ox : Nat) (kn : Int32) (F : Nat → TC) (d r : Int32) (X : List Nat) (n1 : Nat) (h : AH) (v : Option Value) (h' : AH) : Prop := FrU B Q (LCl P Q) h h' ∧ mcP B Q P ox kn F d r X n1 h v h'
/-- the steps stay when the classes go on -/
theorem STP.cl {B Q P : Nat → Nat} {ox : Nat} {kn d r : Int32} {h h' : AH} {F F' : Nat → TC} {X : List Nat} {S : SS} {ps : PL2} {tk en : Int32} (Y : LYO B Q) (C : CLS B Q P ox kn h F d r) (T : STP B Q P h F X S ps tk en) (f : FrU B Q (LCl P Q) h h') (S' : TS B Q h' F') (e : F' 50 = F 50) : STP B Q P h' F' X S ps tk en := by
  obtain ⟨a1, a2, a3, ⟨row, b1, b2, b3⟩, c1, c2, c3, ⟨xs, c4⟩, ys, c5⟩ := T
  obtain ⟨w14, -, e14⟩ := C.2.2.2.2.2.2.1 1 (by decide)
  have e14' : h (P 14) = some (4, [.ref (Q 66), .ref (Q 67), vI w14]) := e14
  have row0 := C.2.2.2.2.2.2.2
  have kp : ∀ {a k : Nat} {vs : List Value}, h a = some (k, vs) → k ≠ 7 → k ≠ 107 → a ≠ P 14 → h' a = some (k, vs) := fun {a k vs} ea h7 h107 hn => by
    rw [f a (fun i hi => ?_) (fun z => ?_)]
    · exact ea
    · obtain ⟨-, q1, xs, q2, -⟩ := a1 i hi
      exact ⟨k_ne ea q1 h7, k_ne ea q2 h107⟩
    · simp only [LCl, List.mem_cons, List.not_mem_nil, or_false] at z
      have kq : ∀ j, 60 ≤ j → j < 70 → a ≠ Q j := fun j h1 h2 => by
        obtain ⟨ws, e2, -⟩ := row0 j h1 h2
        exact k_ne ea e2 h107
      rcases z with z | z | z | z | z | z
      · exact hn z
      · exact kq 61 (by decide) (by decide) z
      · exact kq 62 (by decide) (by decide) z
      · exact kq 63 (by decide) (by decide) z
      · exact kq 66 (by decide) (by decide) z
      · exact kq 67 (by decide) (by decide) z
  have kr : ∀ {j : Nat} {vs : List Value}, h (Q j) = some (107, vs) → 60 ≤ j → j < 70 → j ≠ 61 → j ≠ 62 → j ≠ 63 → j ≠ 66 → j ≠ 67 → h' (Q j) = some (107, vs) := fun {j vs} ea h1 h2 n1 n2 n3 n4 n5 => by
    rw [f (Q j) (fun i hi => ?_) (fun z => ?_)]
    · exact ea
    · obtain ⟨-, q1, xs, q2, -⟩ := a1 i hi
      exact ⟨k_ne ea q1 (by decide), fun z => by have := Y.2 _ _ (by omega) (by omega) z; omega⟩
    · simp only [LCl, List.mem_cons, List.not_mem_nil, or_false] at z
      rcases z with z | z | z | z | z | z
      · exact k_ne ea e14' (by decide) z
      · exact n1 (Y.2 _ _ h2 (by decide) z)
      · exact n2 (Y.2 _ _ h2 (by decide) z)
      · exact n3 (Y.2 _ _ h2 (by decide) z)
      · exact n4 (Y.2 _ _ h2 (by decide) z)
      · exact n5 (Y.2 _ _ h2 (by decide) z)
  have hne : P 13 ≠ P 14 := SCR.pne Y C.2.2.2 (i := 0) (j := 1) (by decide) (by decide) (by decide)
  refine ⟨S', by rw [e]; exact a2, kp a3 (by decide) (by decide) (k_ne a3 e14' (by decide)), ⟨row, kr b1 (by decide) (by decide) (by decide) (by decide) (by decide) (by decide) (by decide), b2, b3⟩, c1, c2, kp c3 (by decide) (by decide) hne, ⟨xs, kr c4.1 (by decide) (by decide) (by decide) (by decide) (by decide) (by decide) (by decide), c4.2⟩, ys, kr c5.1 (by decide) (by decide) (by decide) (by decide) (by decide) (by decide) (by decide), c5.2⟩
section Q32
variable {la : Launch} {D : va_G} {cA : Nat → ClassId} {B0 pa : Nat} {B Q P : Nat → Nat} {ox : Nat} {kn d r : Int32} {F : Nat → TC}
set_option maxHeartbeats 64000000 in
theorem s1_makeAlikeU (h : AH) (Y : LYO B Q) (C : CLS B Q P ox kn h F d r) {i1 i2 : Nat} (h1i : i1 < 52) (h1n : i1 ≠ 51) (h2i : i2 < 52) (h2n : i2 ≠ 51) {one other : List Nat} (N1 : TN (F i1) one) (N2 : TN (F i2) other) (t1 : TW one ∧ one.length ≤ 16) (t2 : TW other ∧ other.length ≤ 16) : CT la D cA B0 pa yX1_makeAlike cX1_makeAlike 8 (some .boolean) (rmD 6 0 0) [.ref (P 5), .ref (B i1), .ref (B i2)] h (mcU B Q P ox kn F d r (one ++ other) one.length h) := by
  refine CT_of (by decide +kernel) (Nat.le_of_ble_eq_true rfl) ?_
  intro p e s m args below meth c X E hr hlk hnm
  have dk : ∀ {pc : Nat} {q : Instr × Nat}, lkd DX1_makeAlike pc = some q → decode cX1_makeAlike pc = .ok q := lkd_ok DX1_makeAlike_ok
  obtain ⟨bY, ey1, ey2⟩ := BY_of t1 t2
  have hX := bY.1
  have hX32 := hX.2.2
  have hn1 := bY.2.2.2.1
  have hrm : rmI 51 = 32 := rfl
  have hl1 := N1.len
  have hl2 := N2.len
  have hL := C.2.2.2.lcl
  have NX : TN ((upF F 51 ((F i1).1 ++ (F i2).1, (F i1).2 || (F i2).2)) 51) (one ++ other) := by
    rw [upF_self]
    refine ⟨?_, fun x hx => (List.mem_append.mp hx).elim (N1.2 x) (N2.2 x)⟩
    show (F i1).1 ++ (F i2).1 = (one ++ other).map nI
    rw [N1.1, N2.1, List.map_append]
  have fin : ∀ (b : Bool) (h1 : AH) (k : Nat → Nat) (hd : Nat → Option Nat) (g : Nat → Int32) (ps : PL2), (b = true ↔ ∃ k, MnK (one ++ other) one.length k ∧ AcK (one ++ other) k) → CTG B Q P h1 (upF F 51 ((F i1).1 ++ (F i2).1, (F i1).2 || (F i2).2)) (one ++ other) (nK k) (pK hd) g ps → FrU B Q (LCl P Q) h h1 → (b = true → HDP (one ++ other) k hd ∧ GdK (one ++ other) one.length k ∧ AcK (one ++ other) k ∧ MnK (one ++ other) one.length k) → mcU B Q P ox kn F d r (one ++ other) one.length h (some (.int (bI b))) h1 := fun b h1 k hd g ps e1 T1 f1 e2 => ⟨f1, b, rfl, e1, f1.frC C.1 hL, _, C.cl Y T1 f1, fun i hi => upF_ne _ _ hi, fun z => ⟨k, hd, g, ps, T1, e2 z⟩⟩
  have loop : ∀ (n j : Nat) (k : Nat → Nat) (hd : Nat → Option Nat) (g : Nat → Int32) (sk : PL2) (h1 : AH), sk.length + 3 * fxK (one ++ other).length k ≤ n → j + n ≤ 97 → IC (one ++ other) one.length k hd sk → CTG B Q P h1 (upF F 51 ((F i1).1 ++ (F i2).1, (F i1).2 || (F i2).2)) (one ++ other) (nK k) (pK hd) g sk.reverse → FrU B Q (LCl P Q) h h1 → ∀ l : List (Nat × Value), lsel l [4, 3, 0] = [(4, vI j), (3, .int (bI true)), (0, .ref (P 5))] → WR p la e (rmD 6 0 0) s m args below meth c D cA B0 8 (mcU B Q P ox kn F d r (one ++ other) one.length h) 86 l [] h1 0 0 := by
    intro n
    induction n with
    | zero =>
      intro j k hd g sk h1 hn hj I T1 f1 l hl
      cases sk with
      | nil =>
        obtain ⟨t1, t2, t3, t4, t5, t6, t7⟩ := id T1
        have mn := I.mn
        have HD := I.1
        refine WS.sel [4, 3, 0] hl ?_
        refine fst1_ok X (dk rfl) rfl ?_
        refine ldc_ok X csX1_63 (dk rfl) ?_
        refine br_ok X (dk rfl) rfl (show ((90 : Nat) : Int) + 95 = ((185 : Nat) : Int) from rfl) (fun q => absurd q (by rw [show (1000000 : Int32) = nI 1000000 by decide +kernel]; exact nI_ge (by omega) (by omega))) (fun _ => ?_)
        refine fst1_ok X (dk rfl) rfl ?_
        refine br_ok X (dk rfl) rfl (show ((94 : Nat) : Int) + 91 = ((185 : Nat) : Int) from rfl) (fun q => absurd q bI_t) (fun _ => ?_)
        refine fst1_ok X (dk rfl) rfl ?_
        refine getf_ok X flX1_33 (dk rfl) t3 rfl ?_
        refine callVR_ok (ci := 4) (T := TX2) (N := 3) (av := []) (r := []) X E (s2_length h1 t7) lkX2_length mlX1_64 lmX2_length lpX2_length ⟨Nat.le_of_ble_eq_true rfl, Nat.le_of_ble_eq_true rfl⟩ ⟨Nat.le_of_ble_eq_true rfl, Nat.le_of_ble_eq_true rfl⟩ rfl ⟨_, t7.2.2.1⟩ (Nat.le_of_ble_eq_true rfl) (dk rfl) ?_
        rintro _ rfl
        refine br_ok X (dk rfl) rfl (show ((104 : Nat) : Int) + 81 = ((185 : Nat) : Int) from rfl) (fun _ => ?_) (fun q => absurd (by decide) q)
        refine fst1_ok X (dk rfl) rfl ?_
        refine br_ok X (dk rfl) rfl (show ((186 : Nat) : Int) + 14 = ((200 : Nat) : Int) from rfl) (fun q => absurd q bI_t) (fun _ => ?_)
        refine fst1_ok X (dk rfl) rfl ?_
        refine callVR_ok (ci := 3) (T := TX1) (N := 5) (av := []) (r := []) X E (s1_isNoneInItself h1 T1 bY HD mn.1) lkX1_isNoneInItself mlX1_81 lmX1_isNoneInItself lpX1_isNoneInItself ⟨Nat.le_of_ble_eq_true rfl, Nat.le_of_ble_eq_true rfl⟩ ⟨Nat.le_of_ble_eq_true rfl, Nat.le_of_ble_eq_true rfl⟩ rfl ⟨_, t3⟩ (Nat.le_of_ble_eq_true rfl) (dk rfl) ?_
        rintro _ ⟨b, rfl, hb⟩
        have iff1 : b = true ↔ ∃ k, MnK (one ++ other) one.length k ∧ AcK (one ++ other) k := ⟨fun z => ⟨k, mn, hb.mp z⟩, fun ⟨k2, m2, a2⟩ => hb.mpr (AcK.of m2 mn a2)⟩
        cases b with
        | true =>
          refine br_ok X (dk rfl) rfl (show ((193 : Nat) : Int) + 7 = ((200 : Nat) : Int) from rfl) (fun q => absurd q bI_t) (fun _ => ?_)
          refine fst1_ok X (dk rfl) rfl ?_
          refine br_ok X (dk rfl) rfl (show ((197 : Nat) : Int) + 4 = ((201 : Nat) : Int) from rfl) (fun _ => ?_) (fun q => absurd trivial q)
          exact reti_ok X hr hlk (bI_n true) (dk rfl) (fin true h1 k hd g _ iff1 T1 f1 (fun _ => ⟨HD, mn.1, hb.mp rfl, mn⟩)) (Nat.le_of_ble_eq_true rfl) (Nat.le_of_ble_eq_true rfl)
        | false =>
          refine br_ok X (dk rfl) rfl (show ((193 : Nat) : Int) + 7 = ((200 : Nat) : Int) from rfl) (fun _ => ?_) (fun q => absurd bI_f' q)
          refine fst1_ok X (dk rfl) rfl ?_
          exact reti_ok X hr hlk (bI_n false) (dk rfl) (fin false h1 k hd g _ iff1 T1 f1 (fun z => (by cases z))) (Nat.le_of_ble_eq_true rfl) (Nat.le_of_ble_eq_true rfl)
      | cons z sk =>
        rw [List.length_cons] at hn
        omega
    | succ n ih =>
      intro j k hd g sk h1 hn hj I T1 f1 l hl
      cases sk with
      | nil =>
        obtain ⟨t1, t2, t3, t4, t5, t6, t7⟩ := id T1
        have mn := I.mn
        have HD := I.1
        refine WS.sel [4, 3, 0] hl ?_
        refine fst1_ok X (dk rfl) rfl ?_
        refine ldc_ok X csX1_63 (dk rfl) ?_
        refine br_ok X (dk rfl) rfl (show ((90 : Nat) : Int) + 95 = ((185 : Nat) : Int) from rfl) (fun q => absurd q (by rw [show (1000000 : Int32) = nI 1000000 by decide +kernel]; exact nI_ge (by omega) (by omega))) (fun _ => ?_)
        refine fst1_ok X (dk rfl) rfl ?_
        refine br_ok X (dk rfl) rfl (show ((94 : Nat) : Int) + 91 = ((185 : Nat) : Int) from rfl) (fun q => absurd q bI_t) (fun _ => ?_)
        refine fst1_ok X (dk rfl) rfl ?_
        refine getf_ok X flX1_33 (dk rfl) t3 rfl ?_
        refine callVR_ok (ci := 4) (T := TX2) (N := 3) (av := []) (r := []) X E (s2_length h1 t7) lkX2_length mlX1_64 lmX2_length lpX2_length ⟨Nat.le_of_ble_eq_true rfl, Nat.le_of_ble_eq_true rfl⟩ ⟨Nat.le_of_ble_eq_true rfl, Nat.le_of_ble_eq_true rfl⟩ rfl ⟨_, t7.2.2.1⟩ (Nat.le_of_ble_eq_true rfl) (dk rfl) ?_
        rintro _ rfl
        refine br_ok X (dk rfl) rfl (show ((104 : Nat) : Int) + 81 = ((185 : Nat) : Int) from rfl) (fun _ => ?_) (fun q => absurd (by decide) q)
        refine fst1_ok X (dk rfl) rfl ?_
        refine br_ok X (dk rfl) rfl (show ((186 : Nat) : Int) + 14 = ((200 : Nat) : Int) from rfl) (fun q => absurd q bI_t) (fun _ => ?_)
        refine fst1_ok X (dk rfl) rfl ?_
        refine callVR_ok (ci := 3) (T := TX1) (N := 5) (av := []) (r := []) X E (s1_isNoneInItself h1 T1 bY HD mn.1) lkX1_isNoneInItself mlX1_81 lmX1_isNoneInItself lpX1_isNoneInItself ⟨Nat.le_of_ble_eq_true rfl, Nat.le_of_ble_eq_true rfl⟩ ⟨Nat.le_of_ble_eq_true rfl, Nat.le_of_ble_eq_true rfl⟩ rfl ⟨_, t3⟩ (Nat.le_of_ble_eq_true rfl) (dk rfl) ?_
        rintro _ ⟨b, rfl, hb⟩
        have iff1 : b = true ↔ ∃ k, MnK (one ++ other) one.length k ∧ AcK (one ++ other) k := ⟨fun z => ⟨k, mn, hb.mp z⟩, fun ⟨k2, m2, a2⟩ => hb.mpr (AcK.of m2 mn a2)⟩
        cases b with
        | true =>
          refine br_ok X (dk rfl) rfl (show ((193 : Nat) : Int) + 7 = ((200 : Nat) : Int) from rfl) (fun q => absurd q bI_t) (fun _ => ?_)
          refine fst1_ok X (dk rfl) rfl ?_
          refine br_ok X (dk rfl) rfl (show ((197 : Nat) : Int) + 4 = ((201 : Nat) : Int) from rfl) (fun _ => ?_) (fun q => absurd trivial q)
          exact reti_ok X hr hlk (bI_n true) (dk rfl) (fin true h1 k hd g _ iff1 T1 f1 (fun _ => ⟨HD, mn.1, hb.mp rfl, mn⟩)) (Nat.le_of_ble_eq_true rfl) (Nat.le_of_ble_eq_true rfl)
        | false =>
          refine br_ok X (dk rfl) rfl (show ((193 : Nat) : Int) + 7 = ((200 : Nat) : Int) from rfl) (fun _ => ?_) (fun q => absurd bI_f' q)
          refine fst1_ok X (dk rfl) rfl ?_
          exact reti_ok X hr hlk (bI_n false) (dk rfl) (fin false h1 k hd g _ iff1 T1 f1 (fun z => (by cases z))) (Nat.le_of_ble_eq_true rfl) (Nat.le_of_ble_eq_true rfl)
      | cons z sk =>
        obtain ⟨u1, u2⟩ := z
        obtain ⟨hu1, hu2⟩ := I.2.2.2.2.2 (u1, u2) List.mem_cons_self
        have hu1 : u1 < (one ++ other).length := hu1
        have hu2 : u2 < (one ++ other).length := hu2
        rw [List.reverse_cons] at T1
        rw [List.length_cons] at hn
        obtain ⟨t1, t2, t3, t4, t5, t6, t7⟩ := id T1
        have HD := I.1
        have hk1 : k u1 < 32 := HD.1 u1 (by omega)
        have hk2 : k u2 < 32 := HD.1 u2 (by omega)
        have elen : (sk.reverse ++ [(u1, u2)]).length = sk.length + 1 := by rw [List.length_append, List.length_reverse, List.length_singleton]
        have eget : (sk.reverse ++ [(u1, u2)])[sk.length]? = some (u1, u2) := by
          rw [List.getElem?_append_right (by rw [List.length_reverse]; exact Nat.le_refl _), List.length_reverse, Nat.sub_self]
          rfl
        have fj : Value.int (nI j + Int32.ofInt 1) = vI (j + 1) := congrArg Value.int (by rw [nI_1', nI_add])
        refine WS.sel [4, 3, 0] hl ?_
        refine fst1_ok X (dk rfl) rfl ?_
        refine ldc_ok X csX1_63 (dk rfl) ?_
        refine br_ok X (dk rfl) rfl (show ((90 : Nat) : Int) + 95 = ((185 : Nat) : Int) from rfl) (fun q => absurd q (by rw [show (1000000 : Int32) = nI 1000000 by decide +kernel]; exact nI_ge (by omega) (by omega))) (fun _ => ?_)
        refine fst1_ok X (dk rfl) rfl ?_
        refine br_ok X (dk rfl) rfl (show ((94 : Nat) : Int) + 91 = ((185 : Nat) : Int) from rfl) (fun q => absurd q bI_t) (fun _ => ?_)
        refine fst1_ok X (dk rfl) rfl ?_
        refine getf_ok X flX1_33 (dk rfl) t3 rfl ?_
        refine callVR_ok (ci := 4) (T := TX2) (N := 3) (av := []) (r := []) X E (s2_length h1 t7) lkX2_length mlX1_64 lmX2_length lpX2_length ⟨Nat.le_of_ble_eq_true rfl, Nat.le_of_ble_eq_true rfl⟩ ⟨Nat.le_of_ble_eq_true rfl, Nat.le_of_ble_eq_true rfl⟩ rfl ⟨_, t7.2.2.1⟩ (Nat.le_of_ble_eq_true rfl) (dk rfl) ?_
        rintro _ rfl
        rw [elen]
        refine br_ok X (dk rfl) rfl (show ((104 : Nat) : Int) + 81 = ((185 : Nat) : Int) from rfl) (fun q => absurd q (nI_nle (Nat.succ_pos _) (by omega))) (fun _ => ?_)
        refine fst1_ok X (dk rfl) rfl ?_
        refine getf_ok X flX1_33 (dk rfl) t3 rfl ?_
        refine callVR_ok (ci := 4) (T := TX2) (N := 3) (av := []) (r := []) X E (s2_length h1 t7) lkX2_length mlX1_64 lmX2_length lpX2_length ⟨Nat.le_of_ble_eq_true rfl, Nat.le_of_ble_eq_true rfl⟩ ⟨Nat.le_of_ble_eq_true rfl, Nat.le_of_ble_eq_true rfl⟩ rfl ⟨_, t7.2.2.1⟩ (Nat.le_of_ble_eq_true rfl) (dk rfl) ?_
        rintro _ rfl
        rw [elen]
        iterate 5 refine fst1_ok X (dk rfl) rfl ?_
        rw [nI_1', nI_sub (by omega), Nat.add_sub_cancel]
        refine getf_ok X flX1_33 (dk rfl) t3 rfl ?_
        refine fst1_ok X (dk rfl) rfl ?_
        refine callVR_ok (ci := 4) (T := TX2) (N := 3) (av := [vI sk.length]) (r := [.ref (P 5)]) X E (s2_oneAt h1 t7 eget) lkX2_oneAt mlX1_65 lmX2_oneAt lpX2_oneAt ⟨Nat.le_of_ble_eq_true rfl, Nat.le_of_ble_eq_true rfl⟩ ⟨Nat.le_of_ble_eq_true rfl, Nat.le_of_ble_eq_true rfl⟩ rfl ⟨_, t7.2.2.1⟩ (Nat.le_of_ble_eq_true rfl) (dk rfl) ?_
        rintro _ rfl
        refine callVR_ok (ci := 3) (T := TX1) (N := 5) (av := [vI u1]) (r := []) X E (s1_classAt h1 T1 (z := u1) (by omega)) lkX1_classAt mlX1_68 lmX1_classAt lpX1_classAt ⟨Nat.le_of_ble_eq_true rfl, Nat.le_of_ble_eq_true rfl⟩ ⟨Nat.le_of_ble_eq_true rfl, Nat.le_of_ble_eq_true rfl⟩ rfl ⟨_, t3⟩ (Nat.le_of_ble_eq_true rfl) (dk rfl) ?_
        rintro _ rfl
        iterate 3 refine fst1_ok X (dk rfl) rfl ?_
        refine getf_ok X flX1_33 (dk rfl) t3 rfl ?_
        refine fst1_ok X (dk rfl) rfl ?_
        refine callVR_ok (ci := 4) (T := TX2) (N := 3) (av := [vI sk.length]) (r := [.ref (P 5)]) X E (s2_otherAt h1 t7 eget) lkX2_otherAt mlX1_71 lmX2_otherAt lpX2_otherAt ⟨Nat.le_of_ble_eq_true rfl, Nat.le_of_ble_eq_true rfl⟩ ⟨Nat.le_of_ble_eq_true rfl, Nat.le_of_ble_eq_true rfl⟩ rfl ⟨_, t7.2.2.1⟩ (Nat.le_of_ble_eq_true rfl) (dk rfl) ?_
        rintro _ rfl
        refine callVR_ok (ci := 3) (T := TX1) (N := 5) (av := [vI u2]) (r := []) X E (s1_classAt h1 T1 (z := u2) (by omega)) lkX1_classAt mlX1_68 lmX1_classAt lpX1_classAt ⟨Nat.le_of_ble_eq_true rfl, Nat.le_of_ble_eq_true rfl⟩ ⟨Nat.le_of_ble_eq_true rfl, Nat.le_of_ble_eq_true rfl⟩ rfl ⟨_, t3⟩ (Nat.le_of_ble_eq_true rfl) (dk rfl) ?_
        rintro _ rfl
        rw [show nK k u1 = nI (k u1) from rfl, show nK k u2 = nI (k u2) from rfl]
        iterate 2 refine fst1_ok X (dk rfl) rfl ?_
        refine getf_ok X flX1_33 (dk rfl) t3 rfl ?_
        refine callV_ok (ci := 4) (T := TX2) (N := 3) (av := []) (r := []) X E (s2_dropNext h1 t7) lkX2_dropNext mlX1_74 lmX2_dropNext lpX2_dropNext ⟨Nat.le_of_ble_eq_true rfl, Nat.le_of_ble_eq_true rfl⟩ ⟨Nat.le_of_ble_eq_true rfl, Nat.le_of_ble_eq_true rfl⟩ rfl t7.2.2.1 (Nat.le_of_ble_eq_true rfl) (dk rfl) ?_
        rintro _ h2 ⟨rfl, H2, g2⟩
        have T2 := T1.pr Y H2 g2
        have f2 := f1.trans (g2.u (LCl_p P Q))
        obtain ⟨-, -, s3, -, -, -, s7⟩ := id T2
        iterate 2 refine fst1_ok X (dk rfl) rfl ?_
        by_cases ee : k u1 = k u2
        · refine br_ok X (dk rfl) rfl (show ((159 : Nat) : Int) + 14 = ((173 : Nat) : Int) from rfl) (fun _ => ?_) (fun q => absurd (by rw [ee]) q)
          refine fst1_ok X (dk rfl) rfl ?_
          refine br_ok X (dk rfl) rfl (show ((174 : Nat) : Int) + 4 = ((178 : Nat) : Int) from rfl) (fun _ => ?_) (fun q => absurd trivial q)
          have I2 := I.skip (z := (u1, u2)) ee
          iterate 2 refine fst1_ok X (dk rfl) rfl ?_
          refine br_ok X (dk rfl) rfl (show ((182 : Nat) : Int) + (-96) = ((86 : Nat) : Int) from rfl) (fun _ => ?_) (fun q => absurd trivial q)
          refine WS.sel (l' := [(4, vI (j + 1)), (3, .int (bI true)), (0, .ref (P 5))]) [4, 3, 0] (by rw [← fj]; rfl) ?_
          exact ih (j + 1) k hd g _ h2 (by omega) (by omega) I2 T2 f2 _ rfl
        · refine br_ok X (dk rfl) rfl (show ((159 : Nat) : Int) + 14 = ((173 : Nat) : Int) from rfl) (fun q => absurd (nI_inj (by omega) (by omega) q) ee) (fun _ => ?_)
          iterate 3 refine fst1_ok X (dk rfl) rfl ?_
          refine callV_ok (ci := 3) (T := TX1) (N := 5) (av := [vI (k u1), vI (k u2)]) (r := []) X E (s1_join h2 Y T2 hX (zl := k u1) (zr := k u2) hk1 hk2 HD.1 (fun a ea => (HD.2.2.1 u1 hu1 a ea).1) (fun a ea => (HD.2.2.1 u2 hu2 a ea).1) (by rw [List.length_reverse]; omega)) lkX1_join mlX1_77 lmX1_join lpX1_join ⟨Nat.le_of_ble_eq_true rfl, Nat.le_of_ble_eq_true rfl⟩ ⟨Nat.le_of_ble_eq_true rfl, Nat.le_of_ble_eq_true rfl⟩ rfl s3 (Nat.le_of_ble_eq_true rfl) (dk rfl) ?_
          rintro _ h3 (⟨a, b, ea, eb, hg, rfl, rfl⟩ | ⟨rfl, hgg, T3, g3⟩)
          · refine br_ok X (dk rfl) rfl (show ((170 : Nat) : Int) + 7 = ((177 : Nat) : Int) from rfl) (fun _ => ?_) (fun q => absurd bI_f' q)
            have hno := I.no (z := (u1, u2)) ea eb hg
            iterate 3 refine fst1_ok X (dk rfl) rfl ?_
            refine br_ok X (dk rfl) rfl (show ((182 : Nat) : Int) + (-96) = ((86 : Nat) : Int) from rfl) (fun _ => ?_) (fun q => absurd trivial q)
            refine fst1_ok X (dk rfl) rfl ?_
            refine ldc_ok X csX1_63 (dk rfl) ?_
            refine br_ok X (dk rfl) rfl (show ((90 : Nat) : Int) + 95 = ((185 : Nat) : Int) from rfl) (fun q => absurd q (by rw [show (1000000 : Int32) = nI 1000000 by decide +kernel, nI_1', nI_add]; exact nI_ge (by omega) (by omega))) (fun _ => ?_)
            refine fst1_ok X (dk rfl) rfl ?_
            refine br_ok X (dk rfl) rfl (show ((94 : Nat) : Int) + 91 = ((185 : Nat) : Int) from rfl) (fun _ => ?_) (fun q => absurd bI_f' q)
            refine fst1_ok X (dk rfl) rfl ?_
            refine br_ok X (dk rfl) rfl (show ((186 : Nat) : Int) + 14 = ((200 : Nat) : Int) from rfl) (fun _ => ?_) (fun q => absurd bI_f' q)
            refine fst1_ok X (dk rfl) rfl ?_
            exact reti_ok X hr hlk (bI_n false) (dk rfl) (fin false h3 k hd g _ ⟨fun z => (by cases z), fun ⟨k2, m2, _⟩ => absurd ⟨k2, m2.1⟩ hno⟩ T2 f2 (fun z => (by cases z))) (Nat.le_of_ble_eq_true rfl) (Nat.le_of_ble_eq_true rfl)
          · obtain ⟨I3, m3, m4⟩ := I.mrg hX (z := (u1, u2)) ee hgg
            have m3 : fxK (one ++ other).length (mgK k (k u1) (k u2)) + 1 ≤ fxK (one ++ other).length k := m3
            have m4 : (nwM (one ++ other) hd (k u1) (k u2)).length ≤ 3 := m4
            have f3 := f2.trans g3
            have T4 : CTG B Q P h3 (upF F 51 ((F i1).1 ++ (F i2).1, (F i1).2 || (F i2).2)) (one ++ other) (nK (mgK k (k u1) (k u2))) (pK (hdM k hd (k u1) (k u2))) g (nwM (one ++ other) hd (k u1) (k u2) ++ sk).reverse := by
              refine Eq.mp (congrArg (CTG B Q P h3 (upF F 51 ((F i1).1 ++ (F i2).1, (F i1).2 || (F i2).2)) (one ++ other) (nK (mgK k (k u1) (k u2))) (pK (hdM k hd (k u1) (k u2))) g) ?_) T3
              rw [List.reverse_append]
              congr 1
              unfold nwM
              generalize hd (k u1) = oa
              generalize hd (k u2) = ob
              cases oa <;> cases ob <;> rfl
            refine br_ok X (dk rfl) rfl (show ((170 : Nat) : Int) + 7 = ((177 : Nat) : Int) from rfl) (fun q => absurd q bI_t) (fun _ => ?_)
            refine fst1_ok X (dk rfl) rfl ?_
            refine br_ok X (dk rfl) rfl (show ((174 : Nat) : Int) + 4 = ((178 : Nat) : Int) from rfl) (fun _ => ?_) (fun q => absurd trivial q)
            iterate 2 refine fst1_ok X (dk rfl) rfl ?_
            refine br_ok X (dk rfl) rfl (show ((182 : Nat) : Int) + (-96) = ((86 : Nat) : Int) from rfl) (fun _ => ?_) (fun q => absurd trivial q)
            refine WS.sel (l' := [(4, vI (j + 1)), (3, .int (bI true)), (0, .ref (P 5))]) [4, 3, 0] (by rw [← fj]; rfl) ?_
            exact ih (j + 1) (mgK k (k u1) (k u2)) (hdM k hd (k u1) (k u2)) g _ h3 (by rw [List.length_append]; omega) (by omega) I3 T4 f3 _ rfl
  have fill : ∀ (u i : Nat) (g1 g2 g3 : Nat → Int32) (h1 : AH), u + i = 32 → CTW B Q P h1 (upF F 51 ((F i1).1 ++ (F i2).1, (F i1).2 || (F i2).2)) (one ++ other) g1 g2 g3 → (∀ y, y < i → g1 y = nK (flX (one ++ other)) y ∧ g2 y = pK (hd0 (one ++ other)) y) → FrU B Q (LCl P Q) h h1 → ∀ l : List (Nat × Value), lsel l [3, 1, 0] = [(3, vI i), (1, .ref (B i1)), (0, .ref (P 5))] → WR p la e (rmD 6 0 0) s m args below meth c D cA B0 8 (mcU B Q P ox kn F d r (one ++ other) one.length h) 11 l [] h1 0 0 := by
    intro u
    induction u with
    | zero =>
      intro i g1 g2 g3 h1 hi T1 hg f1 l hl
      have hi32 : i = 32 := by omega
      subst hi32
      obtain ⟨t1, t2, t3, t4, t5, t6, t7⟩ := id T1
      refine WS.sel [3, 1, 0] hl ?_
      iterate 2 refine fst1_ok X (dk rfl) rfl ?_
      refine br_ok X (dk rfl) rfl (show ((14 : Nat) : Int) + 48 = ((62 : Nat) : Int) from rfl) (fun _ => ?_) (fun q => absurd (by rw [nI_32']; exact Int32.le_refl _) q)
      refine fst1_ok X (dk rfl) rfl ?_
      refine getf_ok X flX1_33 (dk rfl) t3 rfl ?_
      refine callV_ok (ci := 4) (T := TX2) (N := 3) (av := []) (r := []) X E (s2_empty h1 t7) lkX2_empty mlX1_52 lmX2_empty lpX2_empty ⟨Nat.le_of_ble_eq_true rfl, Nat.le_of_ble_eq_true rfl⟩ ⟨Nat.le_of_ble_eq_true rfl, Nat.le_of_ble_eq_true rfl⟩ rfl t7.1.choose_spec.2 (Nat.le_of_ble_eq_true rfl) (dk rfl) ?_
      rintro _ h2 ⟨rfl, H2, f2⟩
      have T2 := T1.pr Y H2 f2
      obtain ⟨s1, s2, s3, s4, s5, s6, s7⟩ := id T2
      refine fst1_ok X (dk rfl) rfl ?_
      refine getf_ok X flX1_33 (dk rfl) s3 rfl ?_
      iterate 2 refine fst1_ok X (dk rfl) rfl ?_
      refine callVR_ok (ci := 7) (T := TX5) (N := 3) (av := []) (r := [vI 0, .ref (P 14)]) X E (s5_length h2 s1 h1i) lkX5_length mlX1_55 lmX5_length lpX5_length ⟨Nat.le_of_ble_eq_true rfl, Nat.le_of_ble_eq_true rfl⟩ ⟨Nat.le_of_ble_eq_true rfl, Nat.le_of_ble_eq_true rfl⟩ rfl ⟨_, (s1 i1 h1i).2.1⟩ (Nat.le_of_ble_eq_true rfl) (dk rfl) ?_
      rintro _ rfl
      rw [upF_ne _ _ h1n, hl1]
      refine callV_ok (ci := 4) (T := TX2) (N := 3) (av := [vI 0, vI one.length]) (r := []) X E (s2_add h2 H2 (Yne Y (by decide) (by decide) (by decide)) (ta := 0) (tb := one.length) ⟨by omega, by omega⟩ (by decide)) lkX2_add mlX1_59 lmX2_add lpX2_add ⟨Nat.le_of_ble_eq_true rfl, Nat.le_of_ble_eq_true rfl⟩ ⟨Nat.le_of_ble_eq_true rfl, Nat.le_of_ble_eq_true rfl⟩ rfl H2.2.2.1 (Nat.le_of_ble_eq_true rfl) (dk rfl) ?_
      rintro _ h3 ⟨rfl, H3, f3⟩
      have T3 := (T2.pr Y H3 f3).congr (fun y hy => (hg y hy).1) (fun y hy => (hg y hy).2)
      have f23 := (f1.trans (f2.u (LCl_p P Q))).trans (f3.u (LCl_p P Q))
      iterate 4 refine fst1_ok X (dk rfl) rfl ?_
      refine WS.sel (l' := [(4, vI 0), (3, .int (bI true)), (0, .ref (P 5))]) [4, 3, 0] (rfl) ?_
      have hfx := fxK_le (one ++ other).length (flX (one ++ other))
      exact loop 97 0 _ _ g3 [(0, one.length)] h3 (by rw [List.length_singleton]; omega) (by omega) (IC0 bY) T3 f23 _ rfl
    | succ u ih =>
      intro i g1 g2 g3 h1 hi T1 hg f1 l hl
      obtain ⟨t1, t2, t3, ⟨ra, ra1, ra2, ra3⟩, t5, t6, t7⟩ := id T1
      have fi : Value.int (nI i + Int32.ofInt 1) = vI (i + 1) := congrArg Value.int (by rw [nI_1', nI_add])
      refine WS.sel [3, 1, 0] hl ?_
      iterate 2 refine fst1_ok X (dk rfl) rfl ?_
      refine br_ok X (dk rfl) rfl (show ((14 : Nat) : Int) + 48 = ((62 : Nat) : Int) from rfl) (fun q => absurd q (by rw [nI_32']; exact nI_ge (by omega) (by omega))) (fun _ => ?_)
      refine fst1_ok X (dk rfl) rfl ?_
      refine getf_ok X flX1_20 (dk rfl) t3 rfl ?_
      iterate 2 refine fst1_ok X (dk rfl) rfl ?_
      refine getf_ok X flX1_16 (dk rfl) t3 rfl ?_
      refine fst1_ok X (dk rfl) rfl ?_
      refine callVR_ok (ci := 7) (T := TX5) (N := 3) (av := [vI i]) (r := [vI i, .ref (Q 61)]) X E (s5_firstLike h1 t1 (ib := 51) (by omega) hX t2 (z := i) (by omega)) lkX5_firstLike mlX1_41 lmX5_firstLike lpX5_firstLike ⟨Nat.le_of_ble_eq_true rfl, Nat.le_of_ble_eq_true rfl⟩ ⟨Nat.le_of_ble_eq_true rfl, Nat.le_of_ble_eq_true rfl⟩ rfl ⟨_, (t1 51 (by omega)).2.1⟩ (Nat.le_of_ble_eq_true rfl) (dk rfl) ?_
      rintro _ rfl
      refine ast7_ok X (dk rfl) ra1 (nI_pos (by omega)) (by rw [nI_clamp (by omega)]; omega) ?_
      rw [nI_clamp (by omega)]
      have T2 := T1.s1 Y ra1 (x := i) (by omega) (nI (flX (one ++ other) i))
      have f2 := f1.set (LCl_q P Q).1 (107, (ra.set i (nI (flX (one ++ other) i))).map Value.int)
      obtain ⟨s1, s2, s3, s4, ⟨rb, rb1, rb2, rb3⟩, s6, s7⟩ := id T2
      refine fst1_ok X (dk rfl) rfl ?_
      refine getf_ok X flX1_24 (dk rfl) s3 rfl ?_
      iterate 2 refine fst1_ok X (dk rfl) rfl ?_
      refine getf_ok X flX1_16 (dk rfl) s3 rfl ?_
      refine fst1_ok X (dk rfl) rfl ?_
      refine callVR_ok (ci := 7) (T := TX5) (N := 3) (av := [vI i]) (r := [vI i, .ref (Q 62)]) X E (s5_letterAt _ s1 (i := 51) (by omega) (nI i)) lkX5_letterAt mlX1_45 lmX5_letterAt lpX5_letterAt ⟨Nat.le_of_ble_eq_true rfl, Nat.le_of_ble_eq_true rfl⟩ ⟨Nat.le_of_ble_eq_true rfl, Nat.le_of_ble_eq_true rfl⟩ rfl ⟨_, (s1 51 (by omega)).2.1⟩ (Nat.le_of_ble_eq_true rfl) (dk rfl) ?_
      rintro _ rfl
      rcases Nat.lt_or_ge i (one ++ other).length with hil | hil
      · have hgi := gl_get hil
        have ogi := gl_ok hX hil
        have lti := ogi.lt
        rw [s2.lt hgi (by omega)]
        refine callNR_ok (av := [vI (gl (one ++ other) i)]) (r := [vI i, .ref (Q 62)]) X E (s6_isHead _ (x := gl (one ++ other) i) (by omega)) lkX6_isHead mnX1_48 lsX6_isHead ⟨Nat.le_of_ble_eq_true rfl, Nat.le_of_ble_eq_true rfl⟩ ⟨Nat.le_of_ble_eq_true rfl, Nat.le_of_ble_eq_true rfl⟩ (Nat.le_of_ble_eq_true rfl) (dk rfl) ?_
        rintro _ rfl
        by_cases h10 : 10 ≤ gl (one ++ other) i
        · rw [decide_eq_true ⟨h10, by rcases ogi with z | z <;> omega⟩]
          refine br_ok X (dk rfl) rfl (show ((47 : Nat) : Int) + 7 = ((54 : Nat) : Int) from rfl) (fun q => absurd q bI_t) (fun _ => ?_)
          have ehd : nI i = pK (hd0 (one ++ other)) i := by
            show _ = pI (hd0 (one ++ other) i)
            unfold hd0
            rw [if_pos ⟨hil, h10⟩]
            rfl
          refine fst1_ok X (dk rfl) rfl ?_
          refine br_ok X (dk rfl) rfl (show ((51 : Nat) : Int) + 4 = ((55 : Nat) : Int) from rfl) (fun _ => ?_) (fun q => absurd trivial q)
          refine ast7_ok X (dk rfl) rb1 (nI_pos (by omega)) (by rw [nI_clamp (by omega)]; omega) ?_
          rw [nI_clamp (by omega)]
          have T3 := T2.s2 Y rb1 (x := i) (by omega) (nI i)
          have f3 := f2.set (LCl_q P Q).2.1 (107, (rb.set i (nI i)).map Value.int)
          refine fst1_ok X (dk rfl) rfl ?_
          refine br_ok X (dk rfl) rfl (show ((59 : Nat) : Int) + (-48) = ((11 : Nat) : Int) from rfl) (fun _ => ?_) (fun q => absurd trivial q)
          refine WS.sel (l' := [(3, vI (i + 1)), (1, .ref (B i1)), (0, .ref (P 5))]) [3, 1, 0] (by rw [← fi]; rfl) ?_
          exact ih (i + 1) _ _ g3 _ (by omega) T3 (fun y hy => by
            unfold up1
            by_cases e9 : y = i
            · rw [if_pos e9, if_pos e9, e9]
              exact ⟨rfl, ehd⟩
            · rw [if_neg e9, if_neg e9]
              exact hg y (by omega)) f3 _ rfl
        · rw [decide_eq_false (fun z => h10 z.1)]
          have hno : ¬ (i < (one ++ other).length ∧ 10 ≤ gl (one ++ other) i) := fun z => h10 z.2
          refine br_ok X (dk rfl) rfl (show ((47 : Nat) : Int) + 7 = ((54 : Nat) : Int) from rfl) (fun _ => ?_) (fun q => absurd bI_f' q)
          have ehd : Int32.ofInt (-1) = pK (hd0 (one ++ other)) i := by
            show _ = pI (hd0 (one ++ other) i)
            unfold hd0
            rw [if_neg hno]
            rfl
          refine fst1_ok X (dk rfl) rfl ?_
          refine ast7_ok X (dk rfl) rb1 (nI_pos (by omega)) (by rw [nI_clamp (by omega)]; omega) ?_
          rw [nI_clamp (by omega)]
          have T3 := T2.s2 Y rb1 (x := i) (by omega) (Int32.ofInt (-1))
          have f3 := f2.set (LCl_q P Q).2.1 (107, (rb.set i (Int32.ofInt (-1))).map Value.int)
          refine fst1_ok X (dk rfl) rfl ?_
          refine br_ok X (dk rfl) rfl (show ((59 : Nat) : Int) + (-48) = ((11 : Nat) : Int) from rfl) (fun _ => ?_) (fun q => absurd trivial q)
          refine WS.sel (l' := [(3, vI (i + 1)), (1, .ref (B i1)), (0, .ref (P 5))]) [3, 1, 0] (by rw [← fi]; rfl) ?_
          exact ih (i + 1) _ _ g3 _ (by omega) T3 (fun y hy => by
            unfold up1
            by_cases e9 : y = i
            · rw [if_pos e9, if_pos e9, e9]
              exact ⟨rfl, ehd⟩
            · rw [if_neg e9, if_neg e9]
              exact hg y (by omega)) f3 _ rfl
      · rw [s2.out hil (by omega)]
        have hno : ¬ (i < (one ++ other).length ∧ 10 ≤ gl (one ++ other) i) := fun z => by omega
        refine callNR_ok (av := [.int (Int8.ofInt (-9)).toInt32]) (r := [vI i, .ref (Q 62)]) X E (s6_isHead9 _) lkX6_isHead mnX1_48 lsX6_isHead ⟨Nat.le_of_ble_eq_true rfl, Nat.le_of_ble_eq_true rfl⟩ ⟨Nat.le_of_ble_eq_true rfl, Nat.le_of_ble_eq_true rfl⟩ (Nat.le_of_ble_eq_true rfl) (dk rfl) ?_
        rintro _ rfl
        refine br_ok X (dk rfl) rfl (show ((47 : Nat) : Int) + 7 = ((54 : Nat) : Int) from rfl) (fun _ => ?_) (fun q => absurd bI_f' q)
        have ehd : Int32.ofInt (-1) = pK (hd0 (one ++ other)) i := by
          show _ = pI (hd0 (one ++ other) i)
          unfold hd0
          rw [if_neg hno]
          rfl
        refine fst1_ok X (dk rfl) rfl ?_
        refine ast7_ok X (dk rfl) rb1 (nI_pos (by omega)) (by rw [nI_clamp (by omega)]; omega) ?_
        rw [nI_clamp (by omega)]
        have T3 := T2.s2 Y rb1 (x := i) (by omega) (Int32.ofInt (-1))
        have f3 := f2.set (LCl_q P Q).2.1 (107, (rb.set i (Int32.ofInt (-1))).map Value.int)
        refine fst1_ok X (dk rfl) rfl ?_
        refine br_ok X (dk rfl) rfl (show ((59 : Nat) : Int) + (-48) = ((11 : Nat) : Int) from rfl) (fun _ => ?_) (fun q => absurd trivial q)
        refine WS.sel (l' := [(3, vI (i + 1)), (1, .ref (B i1)), (0, .ref (P 5))]) [3, 1, 0] (by rw [← fi]; rfl) ?_
        exact ih (i + 1) _ _ g3 _ (by omega) T3 (fun y hy => by
          unfold up1
          by_cases e9 : y = i
          · rw [if_pos e9, if_pos e9, e9]
            exact ⟨rfl, ehd⟩
          · rw [if_neg e9, if_neg e9]
            exact hg y (by omega)) f3 _ rfl
  obtain ⟨r1, r2, r3, r4, r5⟩ := id C.2.2.2
  refine fst1_ok X (dk rfl) rfl ?_
  refine getf_ok X flX1_16 (dk rfl) r2 rfl ?_
  iterate 2 refine fst1_ok X (dk rfl) rfl ?_
  refine callVT_ok (ci := 7) (T := TX5) (N := 3) (av := [.ref (B i1), .ref (B i2)]) (r := []) X E (s5_becomeBoth h Y C.1 (i := 51) (by omega) (j := i1) h1i h1n (k := i2) h2i h2n (by rw [hl1, hl2, hrm]; rw [List.length_append] at hX32; omega)) lkX5_becomeBoth mlX1_37 lmX5_becomeBoth lpX5_becomeBoth ⟨Nat.le_of_ble_eq_true rfl, Nat.le_of_ble_eq_true rfl⟩ ⟨Nat.le_of_ble_eq_true rfl, Nat.le_of_ble_eq_true rfl⟩ rfl (C.1 51 (by omega)).2.1 (Nat.le_of_ble_eq_true rfl) (dk rfl) (fun h1 S1 f1 => ?_)
  have C1 := C.tm Y S1 f1
  obtain ⟨-, g1, -, -, g5⟩ := id C1.2.2.2
  obtain ⟨xa, xa1, xa2⟩ := g5 61 (by decide) (by decide)
  obtain ⟨xb, xb1, xb2⟩ := g5 62 (by decide) (by decide)
  obtain ⟨xc, xc1, xc2⟩ := g5 63 (by decide) (by decide)
  obtain ⟨ga1, RA⟩ := RW1.ex xa1 xa2
  obtain ⟨gb1, RB⟩ := RW1.ex xb1 xb2
  obtain ⟨gc1, RC⟩ := RW1.ex xc1 xc2
  have W1 := C1.2.2.2.prw (k := 1) (by decide)
  iterate 2 refine fst1_ok X (dk rfl) rfl ?_
  exact fill 32 0 ga1 gb1 gc1 h1 rfl ⟨S1, NX, g1, RA, RB, RC, W1⟩ (fun y hy => absurd hy (Nat.not_lt_zero y)) (f1.u _) _ rfl
set_option maxHeartbeats 32000000 in
theorem s6_ansSound (h : AH) (Y : LYO B Q) (C : CLS B Q P ox kn h F d r) {j : Nat} (hj : j < 6) {nj : List Nat} (tj : TN (F j) nj) (wj : TW nj) (lj : nj.length ≤ 16) {i : Nat} (hi : i < 6) {ni : List Nat} (ti : TN (F i) ni) (wi : TW ni) (li : ni.length ≤ 16) {rows : List (List Nat)} (m1 : MDR F 34 rows) (m2 : MDR F 42 rows) (hu : AO rows → usedL rows nj = usedL rows ni) : CT la D cA B0 pa yX6_areAnswersSound cX6_areAnswersSound 3 (some .boolean) (rmD 5 0 0) [.ref ox, .ref (B j), .ref (B i)] h (fun v h' => v = some (.int (bI true)) ∧ ∃ F', CLS B Q P ox kn h' F' d r ∧ (∀ q, q < 30 → F' q = F q) ∧ FrC h h') := by
  refine CT_of (by decide +kernel) (Nat.le_of_ble_eq_true rfl) ?_
  intro p e s m args below meth c X E hr hlk hnm
  have dk : ∀ {pc : Nat} {q : Instr × Nat}, lkd DX6_areAnswersSound pc = some q → decode cX6_areAnswersSound pc = .ok q := lkd_ok DX6_areAnswersSound_ok
  have oa := C.2.2.1.2.2.2.1
  have ob := C.2.2.1.2.2.2.2
  have e1 := m1.tl
  have e2 := m2.tl
  refine fst1_ok X (dk rfl) rfl ?_
  refine getf_ok X flX6_38 (dk rfl) C.2.1 rfl ?_
  refine callVR_ok (ci := 2) (T := TX0) (N := 1) (av := []) (r := []) X E (s0_isTooLong h C.1 oa) lkX0_isTooLong mlX6_230 lmX0_isTooLong lpX0_isTooLong ⟨Nat.le_of_ble_eq_true rfl, Nat.le_of_ble_eq_true rfl⟩ ⟨Nat.le_of_ble_eq_true rfl, Nat.le_of_ble_eq_true rfl⟩ rfl ⟨_, oa.2.choose_spec.1⟩ (Nat.le_of_ble_eq_true rfl) (dk rfl) ?_
  rintro _ rfl
  rw [e1]
  cases eb : rows.any (fun z => decide (16 < z.length)) with
  | true =>
    refine br_ok X (dk rfl) rfl (show ((7 : Nat) : Int) + 15 = ((22 : Nat) : Int) from rfl) (fun q => absurd q bI_t) (fun _ => ?_)
    refine fst1_ok X (dk rfl) rfl ?_
    refine getf_ok X flX6_42 (dk rfl) C.2.1 rfl ?_
    refine callVR_ok (ci := 2) (T := TX0) (N := 1) (av := []) (r := []) X E (s0_isTooLong h C.1 ob) lkX0_isTooLong mlX6_230 lmX0_isTooLong lpX0_isTooLong ⟨Nat.le_of_ble_eq_true rfl, Nat.le_of_ble_eq_true rfl⟩ ⟨Nat.le_of_ble_eq_true rfl, Nat.le_of_ble_eq_true rfl⟩ rfl ⟨_, ob.2.choose_spec.1⟩ (Nat.le_of_ble_eq_true rfl) (dk rfl) ?_
    rintro _ rfl
    rw [e2, eb]
    refine br_ok X (dk rfl) rfl (show ((17 : Nat) : Int) + 5 = ((22 : Nat) : Int) from rfl) (fun q => absurd q bI_t) (fun _ => ?_)
    refine fst1_ok X (dk rfl) rfl ?_
    exact reti_ok X hr hlk (bI_n true) (dk rfl) (⟨rfl, _, C, fun _ _ => rfl, FrC.rf _⟩) (Nat.le_of_ble_eq_true rfl) (Nat.le_of_ble_eq_true rfl)
  | false =>
    have R1 := m1.short eb
    have R2 := m2.short eb
    refine br_ok X (dk rfl) rfl (show ((7 : Nat) : Int) + 15 = ((22 : Nat) : Int) from rfl) (fun _ => ?_) (fun q => absurd bI_f' q)
    refine fst1_ok X (dk rfl) rfl ?_
    refine getf_ok X flX6_38 (dk rfl) C.2.1 rfl ?_
    refine callVR_ok (ci := 2) (T := TX0) (N := 1) (av := []) (r := []) X E (s0_isTooLong h C.1 oa) lkX0_isTooLong mlX6_230 lmX0_isTooLong lpX0_isTooLong ⟨Nat.le_of_ble_eq_true rfl, Nat.le_of_ble_eq_true rfl⟩ ⟨Nat.le_of_ble_eq_true rfl, Nat.le_of_ble_eq_true rfl⟩ rfl ⟨_, oa.2.choose_spec.1⟩ (Nat.le_of_ble_eq_true rfl) (dk rfl) ?_
    rintro _ rfl
    rw [e1, eb]
    refine br_ok X (dk rfl) rfl (show ((29 : Nat) : Int) + 45 = ((74 : Nat) : Int) from rfl) (fun q => absurd q bI_f) (fun _ => ?_)
    refine fst1_ok X (dk rfl) rfl ?_
    refine getf_ok X flX6_42 (dk rfl) C.2.1 rfl ?_
    refine callVR_ok (ci := 2) (T := TX0) (N := 1) (av := []) (r := []) X E (s0_isTooLong h C.1 ob) lkX0_isTooLong mlX6_230 lmX0_isTooLong lpX0_isTooLong ⟨Nat.le_of_ble_eq_true rfl, Nat.le_of_ble_eq_true rfl⟩ ⟨Nat.le_of_ble_eq_true rfl, Nat.le_of_ble_eq_true rfl⟩ rfl ⟨_, ob.2.choose_spec.1⟩ (Nat.le_of_ble_eq_true rfl) (dk rfl) ?_
    rintro _ rfl
    rw [e2, eb]
    refine br_ok X (dk rfl) rfl (show ((39 : Nat) : Int) + 35 = ((74 : Nat) : Int) from rfl) (fun q => absurd q bI_f) (fun _ => ?_)
    refine fst1_ok X (dk rfl) rfl ?_
    refine getf_ok X flX6_38 (dk rfl) C.2.1 rfl ?_
    refine fst1_ok X (dk rfl) rfl ?_
    refine getf_ok X flX6_42 (dk rfl) C.2.1 rfl ?_
    refine callVR_ok (ci := 2) (T := TX0) (N := 1) (av := [.ref (P 3)]) (r := []) X E (s0_firstUnlike h C.1 oa ob R1 R2) lkX0_firstUnlike mlX6_233 lmX0_firstUnlike lpX0_firstUnlike ⟨Nat.le_of_ble_eq_true rfl, Nat.le_of_ble_eq_true rfl⟩ ⟨Nat.le_of_ble_eq_true rfl, Nat.le_of_ble_eq_true rfl⟩ rfl ⟨_, oa.2.choose_spec.1⟩ (Nat.le_of_ble_eq_true rfl) (dk rfl) ?_
    rintro _ rfl
    rw [(ulN_none m1.1 m1.1).mpr rfl]
    refine fst1_ok X (dk rfl) rfl ?_
    refine br_ok X (dk rfl) rfl (show ((54 : Nat) : Int) + 20 = ((74 : Nat) : Int) from rfl) (fun q => absurd rfl q) (fun _ => ?_)
    iterate 2 refine fst1_ok X (dk rfl) rfl ?_
    refine getf_ok X flX6_38 (dk rfl) C.2.1 rfl ?_
    iterate 2 refine fst1_ok X (dk rfl) rfl ?_
    refine callV_ok (ci := 8) (T := TX6) (N := 14) (av := [.ref (P 2), .ref (B j), .ref (B i)]) (r := []) X E (s6_isMade h Y C oa (by omega) R1 (j := j) (by omega) tj wj lj (i := i) (by omega) ti wi li) lkX6_isMadeAlikeBy mlX6_222 lmX6_isMadeAlikeBy lpX6_isMadeAlikeBy ⟨Nat.le_of_ble_eq_true rfl, Nat.le_of_ble_eq_true rfl⟩ ⟨Nat.le_of_ble_eq_true rfl, Nat.le_of_ble_eq_true rfl⟩ rfl C.2.1 (Nat.le_of_ble_eq_true rfl) (dk rfl) ?_
    rintro _ h2 ⟨rfl, F2, C2, eF, f2⟩
    rw [decide_eq_true (hu R1.ao)]
    refine br_ok X (dk rfl) rfl (show ((67 : Nat) : Int) + 7 = ((74 : Nat) : Int) from rfl) (fun q => absurd q bI_t) (fun _ => ?_)
    refine fst1_ok X (dk rfl) rfl ?_
    refine br_ok X (dk rfl) rfl (show ((71 : Nat) : Int) + 4 = ((75 : Nat) : Int) from rfl) (fun _ => ?_) (fun q => absurd trivial q)
    exact reti_ok X hr hlk (bI_n true) (dk rfl) (⟨rfl, F2, C2, fun q hq => eF q (by omega) (by omega), f2⟩) (Nat.le_of_ble_eq_true rfl) (Nat.le_of_ble_eq_true rfl)
set_option maxHeartbeats 32000000 in
theorem s6_comSound (h : AH) (Y : LYO B Q) (C : CLS B Q P ox kn h F d r) {j : Nat} (hj : j < 6) {nj : List Nat} (tj : TN (F j) nj) (wj : TW nj) (lj : nj.length ≤ 16) {i : Nat} (hi : i < 6) {ni : List Nat} (ti : TN (F i) ni) (wi : TW ni) (li : ni.length ≤ 16) : CT la D cA B0 pa yX6_isCommonSound cX6_isCommonSound 3 (some .boolean) (rmD 5 0 0) [.ref ox, .ref (B j), .ref (B i)] h (fun v h' => v = some (.int (bI true)) ∧ ∃ F', CLS B Q P ox kn h' F' d r ∧ (∀ q, q < 30 → F' q = F q) ∧ FrC h h') := by
  refine CT_of (by decide +kernel) (Nat.le_of_ble_eq_true rfl) ?_
  intro p e s m args below meth c X E hr hlk hnm
  have dk : ∀ {pc : Nat} {q : Instr × Nat}, lkd DX6_isCommonSound pc = some q → decode cX6_isCommonSound pc = .ok q := lkd_ok DX6_isCommonSound_ok
  have hpr := C.2.2.2.prw (k := 2) (by decide)
  have hsh := C.2.2.2.2.2.1
  have oa := C.2.2.1.2.2.2.1
  refine fst1_ok X (dk rfl) rfl ?_
  refine getf_ok X flX6_62 (dk rfl) C.2.1 rfl ?_
  iterate 3 refine fst1_ok X (dk rfl) rfl ?_
  refine getf_ok X flX6_24 (dk rfl) C.2.1 rfl ?_
  refine callV_ok (ci := 5) (T := TX3) (N := 1) (av := [.ref (B j), .ref (B i), .ref (B 30)]) (r := []) X E (s3_drawInto h Y hpr (hAq Y (by decide) (by decide) (by decide) (by decide)) C.1 hsh (Yne Y (by decide) (by decide) (by decide)) (i1 := j) (by omega) tj wj lj (i2 := i) (by omega) ti wi li (i3 := 30) (by omega) (by omega) (by omega)) lkX3_drawInto mlX6_159 lmX3_drawInto lpX3_drawInto ⟨Nat.le_of_ble_eq_true rfl, Nat.le_of_ble_eq_true rfl⟩ ⟨Nat.le_of_ble_eq_true rfl, Nat.le_of_ble_eq_true rfl⟩ rfl hsh (Nat.le_of_ble_eq_true rfl) (dk rfl) ?_
  rintro _ h2 ⟨rfl, W2, S2, f2⟩
  obtain ⟨C2, g2⟩ := C.sh Y S2 W2 f2
  by_cases h8 : (comL nj ni).1.length ≤ 8
  · obtain ⟨wc, lc⟩ := comL_ok wj wi lj li h8
    obtain ⟨q1, q2⟩ := comL_match h8
    have oa2 := C2.2.2.1.2.2.2.1
    have t30 : TN (upF F 30 ((comL nj ni).2.map nI, false) 30) (comL nj ni).2 := by
      rw [upF_self]
      exact ⟨rfl, wc.2⟩
    have tj2 : TN (upF F 30 ((comL nj ni).2.map nI, false) j) nj := by
      rw [upF_ne _ _ (by omega)]
      exact tj
    rw [decide_eq_true h8]
    refine br_ok X (dk rfl) rfl (show ((13 : Nat) : Int) + 33 = ((46 : Nat) : Int) from rfl) (fun q => absurd q bI_t) (fun _ => ?_)
    refine fst1_ok X (dk rfl) rfl ?_
    refine getf_ok X flX6_38 (dk rfl) C2.2.1 rfl ?_
    refine fst1_ok X (dk rfl) rfl ?_
    refine getf_ok X flX6_24 (dk rfl) C2.2.1 rfl ?_
    refine fst1_ok X (dk rfl) rfl ?_
    refine callV_ok (ci := 2) (T := TX0) (N := 1) (av := [.ref (B 30), .ref (B j)]) (r := []) X E (s0_becomeMatch h2 Y C2.1 oa2 (fun n hn => by unfold rmI; rw [if_neg (by omega), if_neg (by omega), if_pos (by omega)]) (i1 := 30) (by omega) t30 (by omega) (i2 := j) (by omega) tj2 (by omega) wj lj) lkX0_becomeMatch mlX6_194 lmX0_becomeMatch lpX0_becomeMatch ⟨Nat.le_of_ble_eq_true rfl, Nat.le_of_ble_eq_true rfl⟩ ⟨Nat.le_of_ble_eq_true rfl, Nat.le_of_ble_eq_true rfl⟩ rfl oa2.2.choose_spec.1 (Nat.le_of_ble_eq_true rfl) (dk rfl) ?_
    rintro _ h3 ⟨rfl, f3, G3, S3, g3⟩
    have C3 := C2.tm Y S3 f3
    have oa3 := C3.2.2.1.2.2.2.1
    have t31 : TN (upK (upF F 30 ((comL nj ni).2.map nI, false)) 34 G3 8 30) (comL nj ni).2 := by
      rw [upK_out _ _ _ (by omega)]
      exact t30
    have ti3 : TN (upK (upF F 30 ((comL nj ni).2.map nI, false)) 34 G3 8 i) ni := by
      rw [upK_out _ _ _ (by omega), upF_ne _ _ (by omega)]
      exact ti
    rw [q1]
    refine br_ok X (dk rfl) rfl (show ((28 : Nat) : Int) + 22 = ((50 : Nat) : Int) from rfl) (fun q => absurd q bI_t) (fun _ => ?_)
    refine fst1_ok X (dk rfl) rfl ?_
    refine getf_ok X flX6_38 (dk rfl) C3.2.1 rfl ?_
    refine fst1_ok X (dk rfl) rfl ?_
    refine getf_ok X flX6_24 (dk rfl) C3.2.1 rfl ?_
    refine fst1_ok X (dk rfl) rfl ?_
    refine callV_ok (ci := 2) (T := TX0) (N := 1) (av := [.ref (B 30), .ref (B i)]) (r := []) X E (s0_becomeMatch h3 Y C3.1 oa3 (fun n hn => by unfold rmI; rw [if_neg (by omega), if_neg (by omega), if_pos (by omega)]) (i1 := 30) (by omega) t31 (by omega) (i2 := i) (by omega) ti3 (by omega) wi li) lkX0_becomeMatch mlX6_194 lmX0_becomeMatch lpX0_becomeMatch ⟨Nat.le_of_ble_eq_true rfl, Nat.le_of_ble_eq_true rfl⟩ ⟨Nat.le_of_ble_eq_true rfl, Nat.le_of_ble_eq_true rfl⟩ rfl oa3.2.choose_spec.1 (Nat.le_of_ble_eq_true rfl) (dk rfl) ?_
    rintro _ h4 ⟨rfl, f4, G4, S4, g4⟩
    have C4 := C3.tm Y S4 f4
    rw [q2]
    refine br_ok X (dk rfl) rfl (show ((43 : Nat) : Int) + 7 = ((50 : Nat) : Int) from rfl) (fun q => absurd q bI_t) (fun _ => ?_)
    refine fst1_ok X (dk rfl) rfl ?_
    refine br_ok X (dk rfl) rfl (show ((47 : Nat) : Int) + 4 = ((51 : Nat) : Int) from rfl) (fun _ => ?_) (fun q => absurd trivial q)
    exact reti_ok X hr hlk (bI_n true) (dk rfl) (⟨rfl, _, C4, fun q hq => by rw [upK_out _ _ _ (by omega), upK_out _ _ _ (by omega), upF_ne _ _ (by omega)], (g2.trans (f3.frC C2.1)).trans (f4.frC C3.1)⟩) (Nat.le_of_ble_eq_true rfl) (Nat.le_of_ble_eq_true rfl)
  · rw [decide_eq_false h8]
    refine br_ok X (dk rfl) rfl (show ((13 : Nat) : Int) + 33 = ((46 : Nat) : Int) from rfl) (fun _ => ?_) (fun q => absurd bI_f' q)
    refine fst1_ok X (dk rfl) rfl ?_
    refine br_ok X (dk rfl) rfl (show ((47 : Nat) : Int) + 4 = ((51 : Nat) : Int) from rfl) (fun _ => ?_) (fun q => absurd trivial q)
    exact reti_ok X hr hlk (bI_n true) (dk rfl) (⟨rfl, _, C2, fun q hq => upF_ne _ _ (by omega), g2⟩) (Nat.le_of_ble_eq_true rfl) (Nat.le_of_ble_eq_true rfl)
set_option maxHeartbeats 32000000 in
theorem s6_plaSound (h : AH) (Y : LYO B Q) (C : CLS B Q P ox kn h F d r) {j : Nat} (hj : j < 6) {nj : List Nat} (tj : TN (F j) nj) (wj : TW nj) (lj : nj.length ≤ 16) : CT la D cA B0 pa yX6_isPlainSound cX6_isPlainSound 2 (some .boolean) (rmD 5 0 0) [.ref ox, .ref (B j)] h (fun v h' => v = some (.int (bI true)) ∧ ∃ F', CLS B Q P ox kn h' F' d r ∧ (∀ q, q < 30 → F' q = F q) ∧ FrC h h') := by
  refine CT_of (by decide +kernel) (Nat.le_of_ble_eq_true rfl) ?_
  intro p e s m args below meth c X E hr hlk hnm
  have dk : ∀ {pc : Nat} {q : Instr × Nat}, lkd DX6_isPlainSound pc = some q → decode cX6_isPlainSound pc = .ok q := lkd_ok DX6_isPlainSound_ok
  obtain ⟨q1, q2⟩ := plP_match wj
  obtain ⟨wp, lp⟩ := wj.pl8
  refine fst1_ok X (dk rfl) rfl ?_
  refine getf_ok X flX6_24 (dk rfl) C.2.1 rfl ?_
  refine fst1_ok X (dk rfl) rfl ?_
  refine callVT_ok (ci := 7) (T := TX5) (N := 3) (av := [.ref (B j)]) (r := []) X E (s5_becomePlainOf h Y C.1 (i := 30) (by omega) (j := j) (by omega) (by omega) tj (by rw [show rmI 30 = 16 from rfl]; exact lj)) lkX5_becomePlainOf mlX6_148 lmX5_becomePlainOf lpX5_becomePlainOf ⟨Nat.le_of_ble_eq_true rfl, Nat.le_of_ble_eq_true rfl⟩ ⟨Nat.le_of_ble_eq_true rfl, Nat.le_of_ble_eq_true rfl⟩ rfl (C.1 30 (by omega)).2.1 (Nat.le_of_ble_eq_true rfl) (dk rfl) (fun h2 S2 f2 => ?_)
  have C2 := C.tm Y S2 f2
  have oa2 := C2.2.2.1.2.2.2.1
  have t30 : TN (upF F 30 ((plP nj).map nI, false) 30) (plP nj) := by
    rw [upF_self]
    exact ⟨rfl, wp.2⟩
  have tj2 : TN (upF F 30 ((plP nj).map nI, false) j) nj := by
    rw [upF_ne _ _ (by omega)]
    exact tj
  refine fst1_ok X (dk rfl) rfl ?_
  refine getf_ok X flX6_38 (dk rfl) C2.2.1 rfl ?_
  iterate 2 refine fst1_ok X (dk rfl) rfl ?_
  refine getf_ok X flX6_24 (dk rfl) C2.2.1 rfl ?_
  refine callV_ok (ci := 2) (T := TX0) (N := 1) (av := [.ref (B j), .ref (B 30)]) (r := []) X E (s0_becomeMatch h2 Y C2.1 oa2 (fun n hn => by unfold rmI; rw [if_neg (by omega), if_neg (by omega), if_pos (by omega)]) (i1 := j) (by omega) tj2 (by omega) (i2 := 30) (by omega) t30 (by omega) wp (by rw [lp]; exact lj)) lkX0_becomeMatch mlX6_194 lmX0_becomeMatch lpX0_becomeMatch ⟨Nat.le_of_ble_eq_true rfl, Nat.le_of_ble_eq_true rfl⟩ ⟨Nat.le_of_ble_eq_true rfl, Nat.le_of_ble_eq_true rfl⟩ rfl oa2.2.choose_spec.1 (Nat.le_of_ble_eq_true rfl) (dk rfl) ?_
  rintro _ h3 ⟨rfl, f3, G3, S3, g3⟩
  have C3 := C2.tm Y S3 f3
  have oa3 := C3.2.2.1.2.2.2.1
  have t31 : TN (upK (upF F 30 ((plP nj).map nI, false)) 34 G3 8 30) (plP nj) := by
    rw [upK_out _ _ _ (by omega)]
    exact t30
  have tj3 : TN (upK (upF F 30 ((plP nj).map nI, false)) 34 G3 8 j) nj := by
    rw [upK_out _ _ _ (by omega)]
    exact tj2
  rw [q1]
  refine br_ok X (dk rfl) rfl (show ((20 : Nat) : Int) + 22 = ((42 : Nat) : Int) from rfl) (fun q => absurd q bI_t) (fun _ => ?_)
  refine fst1_ok X (dk rfl) rfl ?_
  refine getf_ok X flX6_38 (dk rfl) C3.2.1 rfl ?_
  refine fst1_ok X (dk rfl) rfl ?_
  refine getf_ok X flX6_24 (dk rfl) C3.2.1 rfl ?_
  refine fst1_ok X (dk rfl) rfl ?_
  refine callV_ok (ci := 2) (T := TX0) (N := 1) (av := [.ref (B 30), .ref (B j)]) (r := []) X E (s0_becomeMatch h3 Y C3.1 oa3 (fun n hn => by unfold rmI; rw [if_neg (by omega), if_neg (by omega), if_pos (by omega)]) (i1 := 30) (by omega) t31 (by omega) (i2 := j) (by omega) tj3 (by omega) wj lj) lkX0_becomeMatch mlX6_194 lmX0_becomeMatch lpX0_becomeMatch ⟨Nat.le_of_ble_eq_true rfl, Nat.le_of_ble_eq_true rfl⟩ ⟨Nat.le_of_ble_eq_true rfl, Nat.le_of_ble_eq_true rfl⟩ rfl oa3.2.choose_spec.1 (Nat.le_of_ble_eq_true rfl) (dk rfl) ?_
  rintro _ h4 ⟨rfl, f4, G4, S4, g4⟩
  have C4 := C3.tm Y S4 f4
  rw [q2]
  refine br_ok X (dk rfl) rfl (show ((35 : Nat) : Int) + 7 = ((42 : Nat) : Int) from rfl) (fun q => absurd q bI_t) (fun _ => ?_)
  refine fst1_ok X (dk rfl) rfl ?_
  refine br_ok X (dk rfl) rfl (show ((39 : Nat) : Int) + 4 = ((43 : Nat) : Int) from rfl) (fun _ => ?_) (fun q => absurd trivial q)
  exact reti_ok X hr hlk (bI_n true) (dk rfl) (⟨rfl, _, C4, fun q hq => by rw [upK_out _ _ _ (by omega), upK_out _ _ _ (by omega), upF_ne _ _ (by omega)], ((f2.frC C.1).trans (f3.frC C2.1)).trans (f4.frC C3.1)⟩) (Nat.le_of_ble_eq_true rfl) (Nat.le_of_ble_eq_true rfl)
set_option maxHeartbeats 16000000 in
theorem s6_sizSound (h : AH) {st : ST} (C : CLS B Q P ox kn h F d r) (H : FS F st) (O : StO st) : CT la D cA B0 pa yX6_areSizesSound cX6_areSizesSound 5 (some .boolean) (rmD 5 0 0) [.ref ox] h (RP (.int (bI true)) h) := by
  refine CT_of (by decide +kernel) (Nat.le_of_ble_eq_true rfl) ?_
  intro p e s m args below meth c X E hr hlk hnm
  have dk : ∀ {pc : Nat} {q : Instr × Nat}, lkd DX6_areSizesSound pc = some q → decode cX6_areSizesSound pc = .ok q := lkd_ok DX6_areSizesSound_ok
  have loop : ∀ (d k : Nat), d = 6 - k → k ≤ 6 → ∀ l : List (Nat × Value), lsel l [3, 2, 1] = [(3, vI k), (2, vI 6), (1, .ref (P 0))] → WR p la e (rmD 5 0 0) s m args below meth c D cA B0 5 (RP (.int (bI true)) h) 10 l [] h 0 0 := by
    intro d
    induction d with
    | zero =>
      intro k hd hk l hl
      have hk2 : k = 6 := by omega
      subst hk2
      refine WS.sel [3, 2, 1] hl ?_
      iterate 2 refine fst1_ok X (dk rfl) rfl ?_
      refine br_ok X (dk rfl) rfl (show ((12 : Nat) : Int) + 39 = ((51 : Nat) : Int) from rfl) (fun _ => ?_) (fun q => absurd (Int32.le_refl _) q)
      refine fst1_ok X (dk rfl) rfl ?_
      exact reti_ok X hr hlk (bI_n true) (dk rfl) (⟨rfl, rfl⟩) (Nat.le_of_ble_eq_true rfl) (Nat.le_of_ble_eq_true rfl)
    | succ d ih =>
      intro k hd hk l hl
      obtain ⟨n1, sj, ej, tj, wj, lj⟩ := H.slot O (j := k) (by omega)
      have f3 : Value.int (nI k + Int32.ofInt 1) = vI (k + 1) := congrArg Value.int (by rw [nI_1', nI_add])
      have gx := wj.gx (by omega)
      have sl := shN_le n1
      refine WS.sel [3, 2, 1] hl ?_
      iterate 2 refine fst1_ok X (dk rfl) rfl ?_
      refine br_ok X (dk rfl) rfl (show ((12 : Nat) : Int) + 39 = ((51 : Nat) : Int) from rfl) (fun q => absurd q (nI_ge (a := k) (b := 6) (by omega) (by omega))) (fun _ => ?_)
      iterate 2 refine fst1_ok X (dk rfl) rfl ?_
      refine aldr_ok X (Or.inl rfl) (dk rfl) C.2.2.1.1 (by omega) (rgB_get B 0 (k := k) (by omega)) ?_
      rw [Nat.zero_add]
      iterate 2 refine fst1_ok X (dk rfl) rfl ?_
      refine callVR_ok (ci := 7) (T := TX5) (N := 3) (av := []) (r := []) X E (s5_length h C.1 (i := k) (by omega)) lkX5_length mlX6_76 lmX5_length lpX5_length ⟨Nat.le_of_ble_eq_true rfl, Nat.le_of_ble_eq_true rfl⟩ ⟨Nat.le_of_ble_eq_true rfl, Nat.le_of_ble_eq_true rfl⟩ rfl ⟨_, (C.1 k (by omega)).2.1⟩ (Nat.le_of_ble_eq_true rfl) (dk rfl) ?_
      rintro _ rfl
      rw [tj.len]
      refine fst1_ok X (dk rfl) rfl ?_
      refine br_ok X (dk rfl) rfl (show ((27 : Nat) : Int) + 16 = ((43 : Nat) : Int) from rfl) (fun q => absurd ((nI_leI (by omega) (by omega)).mpr lj) (by rw [← nI_16]; exact Int32.not_le.mpr q)) (fun _ => ?_)
      refine fst1_ok X (dk rfl) rfl ?_
      refine callVR_ok (ci := 7) (T := TX5) (N := 3) (av := []) (r := []) X E (s5_unlikePlaces h C.1 (i := k) (by omega) gx tj) lkX5_unlikePlaces mlX6_204 lmX5_unlikePlaces lpX5_unlikePlaces ⟨Nat.le_of_ble_eq_true rfl, Nat.le_of_ble_eq_true rfl⟩ ⟨Nat.le_of_ble_eq_true rfl, Nat.le_of_ble_eq_true rfl⟩ rfl ⟨_, (C.1 k (by omega)).2.1⟩ (Nat.le_of_ble_eq_true rfl) (dk rfl) ?_
      rintro _ rfl
      refine fst1_ok X (dk rfl) rfl ?_
      refine callVR_ok (ci := 7) (T := TX5) (N := 3) (av := []) (r := [vI (shN n1)]) X E (s5_length h C.1 (i := k) (by omega)) lkX5_length mlX6_76 lmX5_length lpX5_length ⟨Nat.le_of_ble_eq_true rfl, Nat.le_of_ble_eq_true rfl⟩ ⟨Nat.le_of_ble_eq_true rfl, Nat.le_of_ble_eq_true rfl⟩ rfl ⟨_, (C.1 k (by omega)).2.1⟩ (Nat.le_of_ble_eq_true rfl) (dk rfl) ?_
      rintro _ rfl
      rw [tj.len]
      refine br_ok X (dk rfl) rfl (show ((40 : Nat) : Int) + 5 = ((45 : Nat) : Int) from rfl) (fun _ => ?_) (fun q => absurd ((nI_leI (by omega) (by omega)).mpr sl) q)
      refine fst1_ok X (dk rfl) rfl ?_
      refine br_ok X (dk rfl) rfl (show ((48 : Nat) : Int) + (-38) = ((10 : Nat) : Int) from rfl) (fun _ => ?_) (fun q => absurd trivial q)
      refine WS.sel (l' := [(3, vI (k + 1)), (2, vI 6), (1, .ref (P 0))]) [3, 2, 1] (by rw [← f3]; rfl) ?_
      exact ih (k + 1) (by omega) (by omega) _ rfl
  refine fst1_ok X (dk rfl) rfl ?_
  refine getf_ok X flX6_11 (dk rfl) C.2.1 rfl ?_
  iterate 2 refine fst1_ok X (dk rfl) rfl ?_
  refine alen_ok X (by decide) (dk rfl) C.2.2.1.1 ?_
  rw [show ((rgB B 0 6).map Value.ref).length = 6 by simp [rgB]]
  iterate 3 refine fst1_ok X (dk rfl) rfl ?_
  exact loop 6 0 rfl (Nat.zero_le _) _ rfl
set_option maxHeartbeats 64000000 in
theorem s6_isSound (h : AH) (Y : LYO B Q) {st : ST} (C0 : StC B Q P ox kn h st) : CT la D cA B0 pa yX6_isSound cX6_isSound 5 (some .boolean) (rmD 8 0 0) [.ref ox] h (fun v h' => v = some (.int (bI true)) ∧ StC B Q P ox kn h' st ∧ FrC h h') := by
  refine CT_of (by decide +kernel) (Nat.le_of_ble_eq_true rfl) ?_
  intro p e s m args below meth c X E hr hlk hnm
  have dk : ∀ {pc : Nat} {q : Instr × Nat}, lkd DX6_isSound pc = some q → decode cX6_isSound pc = .ok q := lkd_ok DX6_isSound_ok
  obtain ⟨F, C, H, O⟩ := id C0
  obtain ⟨nj, sj, ej, tj, wj, lj⟩ := H.slot O (j := 0) (by decide)
  obtain ⟨ni, si, ei, ti, wi, li⟩ := H.slot O (j := 1) (by decide)
  have t1 : TW nj ∧ nj.length ≤ 16 := ⟨wj, lj⟩
  have t2 : TW ni ∧ ni.length ≤ 16 := ⟨wi, li⟩
  obtain ⟨bY, -, -⟩ := BY_of t1 t2
  obtain ⟨Gs, Sx, q1, q2, q3, q4, q5, q6, q7⟩ := runM_ok t1 t2
  have hsb := stepsB t1 t2 q1 q3 q4 q6 q7 (x := 0) rfl
  refine fst1_ok X (dk rfl) rfl ?_
  refine getf_ok X flX6_11 (dk rfl) C.2.1 rfl ?_
  refine fst1_ok X (dk rfl) rfl ?_
  refine aldr_ok X (Or.inl rfl) (dk rfl) C.2.2.1.1 (by decide) (rgB_get B 0 (n := 6) (k := 0) (by decide)) ?_
  rw [Nat.zero_add]
  iterate 2 refine fst1_ok X (dk rfl) rfl ?_
  refine getf_ok X flX6_11 (dk rfl) C.2.1 rfl ?_
  refine fst1_ok X (dk rfl) rfl ?_
  refine aldr_ok X (Or.inl rfl) (dk rfl) C.2.2.1.1 (by decide) (rgB_get B 0 (n := 6) (k := 1) (by decide)) ?_
  rw [Nat.zero_add]
  iterate 2 refine fst1_ok X (dk rfl) rfl ?_
  refine getf_ok X flX6_48 (dk rfl) C.2.1 rfl ?_
  iterate 2 refine fst1_ok X (dk rfl) rfl ?_
  refine callV_ok (ci := 6) (T := TX4) (N := 5) (av := [.ref (B 0), .ref (B 1)]) (r := []) X E (s4_makeAlike _ Y C (i1 := 0) (by omega) (by omega) (i2 := 1) (by omega) (by omega) tj ti t1 t2 q7 q5 q2.1) lkX4_makeAlike mlX6_185 lmX4_makeAlike lpX4_makeAlike ⟨Nat.le_of_ble_eq_true rfl, Nat.le_of_ble_eq_true rfl⟩ ⟨Nat.le_of_ble_eq_true rfl, Nat.le_of_ble_eq_true rfl⟩ rfl C.2.2.2.1.choose_spec.choose_spec (Nat.le_of_ble_eq_true rfl) (dk rfl) ?_
  rintro _ h2 ⟨rfl, f2, F2, ps, C2, eF, T2⟩
  have tj2 : TN (F2 0) nj := by rw [eF 0 (by decide)]; exact tj
  have ti2 : TN (F2 1) ni := by rw [eF 1 (by decide)]; exact ti
  iterate 2 refine fst1_ok X (dk rfl) rfl ?_
  refine getf_ok X flX6_55 (dk rfl) C2.2.1 rfl ?_
  iterate 2 refine fst1_ok X (dk rfl) rfl ?_
  refine callV_ok (ci := 3) (T := TX1) (N := 5) (av := [.ref (B 0), .ref (B 1)]) (r := []) X E (s1_makeAlikeU h2 Y C2 (i1 := 0) (by omega) (by omega) (i2 := 1) (by omega) (by omega) tj2 ti2 t1 t2) lkX1_makeAlike mlX6_189 lmX1_makeAlike lpX1_makeAlike ⟨Nat.le_of_ble_eq_true rfl, Nat.le_of_ble_eq_true rfl⟩ ⟨Nat.le_of_ble_eq_true rfl, Nat.le_of_ble_eq_true rfl⟩ rfl C2.2.2.2.2.1 (Nat.le_of_ble_eq_true rfl) (dk rfl) ?_
  rintro _ h3 ⟨fu3, b, rfl, hb, f3, F3, C3, eF3, T3⟩
  have hcb := classesB t1 t2 hb (x := 1) (by decide)
  have ebb : decide (Gs.2.2.1 = 0) = b := Bool.eq_iff_iff.mpr (hsb.trans (Iff.trans (by
    unfold PEx
    simp only [if_pos rfl, if_neg (show ¬ (1 : Int32) = 0 by decide)]
    exact canB_same t1 t2) hcb.symm))
  have tj3 : TN (F3 0) nj := by rw [eF3 0 (by decide)]; exact tj2
  have ti3 : TN (F3 1) ni := by rw [eF3 1 (by decide)]; exact ti2
  have H3 : FS F3 st := (H.cg (fun n hn => eF n (by omega))).cg (fun n hn => eF3 n (by omega))
  rw [ebb]
  have rest : ∀ (hh : AH) (F4 : Nat → TC), CLS B Q P ox kn hh F4 st.2.2.1 st.2.2.2 → (∀ q, q < 30 → F4 q = F3 q) → FrC h hh → ∀ l : List (Nat × Value), lsel l [2, 1, 0] = [(2, .ref (B 1)), (1, .ref (B 0)), (0, .ref ox)] → WR p la e (rmD 8 0 0) s m args below meth c D cA B0 5 (fun v h' => v = some (.int (bI true)) ∧ StC B Q P ox kn h' st ∧ FrC h h') 85 l [] hh 0 0 := by
    intro hh F4 C4 eF4 fr l hl
    have tj4 : TN (F4 0) nj := by rw [eF4 0 (by decide)]; exact tj3
    have ti4 : TN (F4 1) ni := by rw [eF4 1 (by decide)]; exact ti3
    refine WS.sel [2, 1, 0] hl ?_
    iterate 3 refine fst1_ok X (dk rfl) rfl ?_
    refine callV_ok (ci := 8) (T := TX6) (N := 14) (av := [.ref (B 0), .ref (B 1)]) (r := []) X E (s6_comSound hh Y C4 (j := 0) (by decide) tj4 wj lj (i := 1) (by decide) ti4 wi li) lkX6_isCommonSound mlX6_260 lmX6_isCommonSound lpX6_isCommonSound ⟨Nat.le_of_ble_eq_true rfl, Nat.le_of_ble_eq_true rfl⟩ ⟨Nat.le_of_ble_eq_true rfl, Nat.le_of_ble_eq_true rfl⟩ rfl C4.2.1 (Nat.le_of_ble_eq_true rfl) (dk rfl) ?_
    rintro _ h5 ⟨rfl, F5, C5, eF5, f5⟩
    refine br_ok X (dk rfl) rfl (show ((91 : Nat) : Int) + 22 = ((113 : Nat) : Int) from rfl) (fun q => absurd q bI_t) (fun _ => ?_)
    iterate 2 refine fst1_ok X (dk rfl) rfl ?_
    have tj5 : TN (F5 0) nj := by rw [eF5 0 (by decide)]; exact tj4
    refine callV_ok (ci := 8) (T := TX6) (N := 14) (av := [.ref (B 0)]) (r := []) X E (s6_plaSound h5 Y C5 (j := 0) (by decide) tj5 wj lj) lkX6_isPlainSound mlX6_263 lmX6_isPlainSound lpX6_isPlainSound ⟨Nat.le_of_ble_eq_true rfl, Nat.le_of_ble_eq_true rfl⟩ ⟨Nat.le_of_ble_eq_true rfl, Nat.le_of_ble_eq_true rfl⟩ rfl C5.2.1 (Nat.le_of_ble_eq_true rfl) (dk rfl) ?_
    rintro _ h6 ⟨rfl, F6, C6, eF6, f6⟩
    refine br_ok X (dk rfl) rfl (show ((99 : Nat) : Int) + 14 = ((113 : Nat) : Int) from rfl) (fun q => absurd q bI_t) (fun _ => ?_)
    refine fst1_ok X (dk rfl) rfl ?_
    have H6 : FS F6 st := ((H3.cg (fun n hn => eF4 n (by omega))).cg (fun n hn => eF5 n (by omega))).cg (fun n hn => eF6 n (by omega))
    refine callVR_ok (ci := 8) (T := TX6) (N := 14) (av := []) (r := []) X E (s6_sizSound h6 C6 H6 O) lkX6_areSizesSound mlX6_266 lmX6_areSizesSound lpX6_areSizesSound ⟨Nat.le_of_ble_eq_true rfl, Nat.le_of_ble_eq_true rfl⟩ ⟨Nat.le_of_ble_eq_true rfl, Nat.le_of_ble_eq_true rfl⟩ rfl ⟨_, C6.2.1⟩ (Nat.le_of_ble_eq_true rfl) (dk rfl) ?_
    rintro _ rfl
    refine br_ok X (dk rfl) rfl (show ((106 : Nat) : Int) + 7 = ((113 : Nat) : Int) from rfl) (fun q => absurd q bI_t) (fun _ => ?_)
    refine fst1_ok X (dk rfl) rfl ?_
    refine br_ok X (dk rfl) rfl (show ((110 : Nat) : Int) + 4 = ((114 : Nat) : Int) from rfl) (fun _ => ?_) (fun q => absurd trivial q)
    exact reti_ok X hr hlk (bI_n true) (dk rfl) (⟨rfl, ⟨F6, C6, H6, O⟩, (fr.trans f5).trans f6⟩) (Nat.le_of_ble_eq_true rfl) (Nat.le_of_ble_eq_true rfl)
  iterate 2 refine fst1_ok X (dk rfl) rfl ?_
  cases b with
  | false =>
    refine br_ok X (dk rfl) rfl (show ((36 : Nat) : Int) + 30 = ((66 : Nat) : Int) from rfl) (fun _ => ?_) (fun q => absurd bI_f' q)
    iterate 2 refine fst1_ok X (dk rfl) rfl ?_
    refine br_ok X (dk rfl) rfl (show ((69 : Nat) : Int) + 44 = ((113 : Nat) : Int) from rfl) (fun q => absurd rfl q) (fun _ => ?_)
    refine fst1_ok X (dk rfl) rfl ?_
    refine br_ok X (dk rfl) rfl (show ((73 : Nat) : Int) + 12 = ((85 : Nat) : Int) from rfl) (fun _ => ?_) (fun q => absurd bI_f' q)
    exact rest h3 F3 C3 (fun q hq => rfl) (f2.trans f3) _ rfl
  | true =>
    obtain ⟨k9, hd, f3', ps3, T4, HD, GD, AK, MK⟩ := T3 rfl
    have hw : Gs.2.2.1 = 0 := of_decide_eq_true ebb
    have ac := q6 hw
    obtain ⟨E1, hE1⟩ := ExP.ex bY.1 q3 ac
    have pe1 : PEs nj ni E1 := ⟨Gs, Sx, q1, hw, by rw [hw] at q7; exact q7, q3, ac, q4, hE1⟩
    refine br_ok X (dk rfl) rfl (show ((36 : Nat) : Int) + 30 = ((66 : Nat) : Int) from rfl) (fun q => absurd q bI_t) (fun _ => ?_)
    refine fst1_ok X (dk rfl) rfl ?_
    refine br_ok X (dk rfl) rfl (show ((41 : Nat) : Int) + 25 = ((66 : Nat) : Int) from rfl) (fun q => absurd q bI_t) (fun _ => ?_)
    refine fst1_ok X (dk rfl) rfl ?_
    refine getf_ok X flX6_48 (dk rfl) C3.2.1 rfl ?_
    refine fst1_ok X (dk rfl) rfl ?_
    refine getf_ok X flX6_38 (dk rfl) C3.2.1 rfl ?_
    have T2b := STP.cl Y C2 T2 fu3 C3.1 (eF3 50 (by decide))
    have oa := C3.2.2.1.2.2.2.1
    refine callV_ok (ci := 6) (T := TX4) (N := 5) (av := [.ref (P 2)]) (r := []) X E (s4_tellInto h3 Y T2b (oo := P 2) (f := 34) oa (fun n hn => by unfold rmI; rw [if_neg (by omega), if_neg (by omega), if_pos (by omega)]) bY.1 q3 ac hE1) lkX4_tellInto mlX6_190 lmX4_tellInto lpX4_tellInto ⟨Nat.le_of_ble_eq_true rfl, Nat.le_of_ble_eq_true rfl⟩ ⟨Nat.le_of_ble_eq_true rfl, Nat.le_of_ble_eq_true rfl⟩ rfl T2b.2.2.1 (Nat.le_of_ble_eq_true rfl) (dk rfl) ?_
    rintro _ h4 ⟨rfl, f4, G4, S4, g4⟩
    have C4 := C3.tm Y S4 f4
    have T5 := CTG.tm Y T4 S4 (upK_out _ _ _ (by decide)) f4
    have ob := C4.2.2.1.2.2.2.2
    refine fst1_ok X (dk rfl) rfl ?_
    refine getf_ok X flX6_55 (dk rfl) C4.2.1 rfl ?_
    refine fst1_ok X (dk rfl) rfl ?_
    refine getf_ok X flX6_42 (dk rfl) C4.2.1 rfl ?_
    refine callV_ok (ci := 3) (T := TX1) (N := 5) (av := [.ref (P 3)]) (r := []) X E (s1_tellInto h4 Y T5 bY HD GD AK (oo := P 3) (f := 42) ob (fun n hn => by unfold rmI; rw [if_neg (by omega), if_neg (by omega), if_pos (by omega)])) lkX1_tellInto mlX6_193 lmX1_tellInto lpX1_tellInto ⟨Nat.le_of_ble_eq_true rfl, Nat.le_of_ble_eq_true rfl⟩ ⟨Nat.le_of_ble_eq_true rfl, Nat.le_of_ble_eq_true rfl⟩ rfl T5.2.2.1 (Nat.le_of_ble_eq_true rfl) (dk rfl) ?_
    rintro _ h5 ⟨rfl, f5, S9, E2, G5, f6, sk, hE2, T6, g5⟩
    have C5 := C4.cl Y T6 f5
    have pe2 : PEc nj ni E2 := ⟨k9, S9, MK, AK, sk, hE2⟩
    have eE := pe1.same t1 t2 pe2
    have u1 := pe1.uni t1 t2
    have m1 : MDR (upK (upK F3 34 G4 8) 42 G5 8) 34 ((List.range 8).map E1) := ⟨by rw [List.length_map, List.length_range], fun n hn => ⟨E1 n, by rw [List.getElem?_map, List.getElem?_range hn]; rfl, by rw [upK_out _ _ _ (by omega), upK_in F3 34 G4 hn]; exact g4 n hn, u1.1 n hn⟩⟩
    have m2 : MDR (upK (upK F3 34 G4 8) 42 G5 8) 42 ((List.range 8).map E1) := ⟨by rw [List.length_map, List.length_range], fun n hn => ⟨E1 n, by rw [List.getElem?_map, List.getElem?_range hn]; rfl, by rw [upK_in _ 42 G5 hn, eE n hn]; exact g5 n hn, u1.1 n hn⟩⟩
    have ek : ∀ q, q < 30 → upK (upK F3 34 G4 8) 42 G5 8 q = F3 q := fun q hq => by rw [upK_out _ _ _ (by omega), upK_out _ _ _ (by omega)]
    have tj6 : TN (upK (upK F3 34 G4 8) 42 G5 8 0) nj := by rw [ek 0 (by decide)]; exact tj3
    have ti6 : TN (upK (upK F3 34 G4 8) 42 G5 8 1) ni := by rw [ek 1 (by decide)]; exact ti3
    have fr5 : FrC h h5 := ((f2.trans f3).trans (f4.frC C3.1)).trans (f5.frC C4.1 C4.2.2.2.lcl)
    iterate 2 refine fst1_ok X (dk rfl) rfl ?_
    refine br_ok X (dk rfl) rfl (show ((69 : Nat) : Int) + 44 = ((113 : Nat) : Int) from rfl) (fun q => absurd rfl q) (fun _ => ?_)
    refine fst1_ok X (dk rfl) rfl ?_
    refine br_ok X (dk rfl) rfl (show ((73 : Nat) : Int) + 12 = ((85 : Nat) : Int) from rfl) (fun q => absurd q bI_t) (fun _ => ?_)
    iterate 3 refine fst1_ok X (dk rfl) rfl ?_
    refine callV_ok (ci := 8) (T := TX6) (N := 14) (av := [.ref (B 0), .ref (B 1)]) (r := []) X E (s6_ansSound h5 Y C5 (j := 0) (by decide) tj6 wj lj (i := 1) (by decide) ti6 wi li m1 m2 (fun _ => by rw [← exF_used E1 wj.2, ← exF_used E1 wi.2]; exact u1.2)) lkX6_areAnswersSound mlX6_257 lmX6_areAnswersSound lpX6_areAnswersSound ⟨Nat.le_of_ble_eq_true rfl, Nat.le_of_ble_eq_true rfl⟩ ⟨Nat.le_of_ble_eq_true rfl, Nat.le_of_ble_eq_true rfl⟩ rfl C5.2.1 (Nat.le_of_ble_eq_true rfl) (dk rfl) ?_
    rintro _ h6 ⟨rfl, F6, C6, eF6, f6b⟩
    refine br_ok X (dk rfl) rfl (show ((82 : Nat) : Int) + 31 = ((113 : Nat) : Int) from rfl) (fun q => absurd q bI_t) (fun _ => ?_)
    exact rest h6 F6 C6 (fun q hq => (eF6 q hq).trans (ek q hq)) (fr5.trans f6b) _ rfl
end Q32
