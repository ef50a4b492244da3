section Uf32q7
/-! isSound() is so (printed by wip/q/genQ7.py) -/
theorem shN_le (X : List Nat) : shN X ≤ X.length := ctF_le _ _
def mcU (B Q P : Nat → Nat) (ox : Nat) (kn : Int32) (F : Nat → TC) (d r : Int32) (X : List Nat) (n1 : Nat) (h : AH) (v : Option Value) (h' : AH) : Prop := FrU B Q (LCl P Q) h h' ∧ mcP B Q P ox kn F d r X n1 h v h'
/-- the steps stay when the classes go on -/
theorem STP.cl {B Q P : Nat → Nat} {ox : Nat} {kn d r : Int32} {h h' : AH} {F F' : Nat → TC} {X : List Nat} {S : SS} {ps : PL2} {tk en : Int32} (Y : LYO B Q) (C : CLS B Q P ox kn h F d r) (T : STP B Q P h F X S ps tk en) (f : FrU B Q (LCl P Q) h h') (S' : TS B Q h' F') (e : F' 50 = F 50) : STP B Q P h' F' X S ps tk en := by
  obtain ⟨a1, a2, a3, ⟨row, b1, b2, b3⟩, c1, c2, c3, ⟨xs, c4⟩, ys, c5⟩ := T
  obtain ⟨w14, -, e14⟩ := C.2.2.2.2.2.2.1 1 (by decide)
  have e14' : h (P 14) = some (4, [.ref (Q 66), .ref (Q 67), vI w14]) := e14
  have row0 := C.2.2.2.2.2.2.2
  have kp : ∀ {a k : Nat} {vs : List Value}, h a = some (k, vs) → k ≠ 7 → k ≠ 107 → a ≠ P 14 → h' a = some (k, vs) := fun {a k vs} ea h7 h107 hn => by
    rw [f a (fun i hi => ?_) (fun z => ?_)]
    · exact ea
    · obtain ⟨-, q1, xs, q2, -⟩ := a1 i hi
      exact ⟨k_ne ea q1 h7, k_ne ea q2 h107⟩
    · simp only [LCl, List.mem_cons, List.not_mem_nil, or_false] at z
      have kq : ∀ j, 60 ≤ j → j < 70 → a ≠ Q j := fun j h1 h2 => by
        obtain ⟨ws, e2, -⟩ := row0 j h1 h2
        exact k_ne ea e2 h107
      rcases z with z | z | z | z | z | z
      · exact hn z
      · exact kq 61 (by decide) (by decide) z
      · exact kq 62 (by decide) (by decide) z
      · exact kq 63 (by decide) (by decide) z
      · exact kq 66 (by decide) (by decide) z
      · exact kq 67 (by decide) (by decide) z
  have kr : ∀ {j : Nat} {vs : List Value}, h (Q j) = some (107, vs) → 60 ≤ j → j < 70 → j ≠ 61 → j ≠ 62 → j ≠ 63 → j ≠ 66 → j ≠ 67 → h' (Q j) = some (107, vs) := fun {j vs} ea h1 h2 n1 n2 n3 n4 n5 => by
    rw [f (Q j) (fun i hi => ?_) (fun z => ?_)]
    · exact ea
    · obtain ⟨-, q1, xs, q2, -⟩ := a1 i hi
      exact ⟨k_ne ea q1 (by decide), fun z => by have := Y.2 _ _ (by omega) (by omega) z; omega⟩
    · simp only [LCl, List.mem_cons, List.not_mem_nil, or_false] at z
      rcases z with z | z | z | z | z | z
      · exact k_ne ea e14' (by decide) z
      · exact n1 (Y.2 _ _ h2 (by decide) z)
      · exact n2 (Y.2 _ _ h2 (by decide) z)
      · exact n3 (Y.2 _ _ h2 (by decide) z)
      · exact n4 (Y.2 _ _ h2 (by decide) z)
      · exact n5 (Y.2 _ _ h2 (by decide) z)
  have hne : P 13 ≠ P 14 := SCR.pne Y C.2.2.2 (i := 0) (j := 1) (by decide) (by decide) (by decide)
  refine ⟨S', by rw [e]; exact a2, kp a3 (by decide) (by decide) (k_ne a3 e14' (by decide)), ⟨row, kr b1 (by decide) (by decide) (by decide) (by decide) (by decide) (by decide) (by decide), b2, b3⟩, c1, c2, kp c3 (by decide) (by decide) hne, ⟨xs, kr c4.1 (by decide) (by decide) (by decide) (by decide) (by decide) (by decide) (by decide), c4.2⟩, ys, kr c5.1 (by decide) (by decide) (by decide) (by decide) (by decide) (by decide) (by decide), c5.2⟩
section Q32
variable {la : Launch} {D : va_G} {cA : Nat → ClassId} {B0 pa : Nat} {B Q P : Nat → Nat} {ox : Nat} {kn d r : Int32} {F : Nat → TC}
set_option maxHeartbeats 64000000 in
theorem s1_makeAlikeU (h : AH) (Y : LYO B Q) (C : CLS B Q P ox kn h F d r) {i1 i2 : Nat} (h1i : i1 < 52) (h1n : i1 ≠ 51) (h2i : i2 < 52) (h2n : i2 ≠ 51) {one other : List Nat} (N1 : TN (F i1) one) (N2 : TN (F i2) other) (t1 : TW one ∧ one.length ≤ 16) (t2 : TW other ∧ other.length ≤ 16) : CT la D cA B0 pa yX1_makeAlike cX1_makeAlike 8 (some .boolean) (rmD 6 0 0) [.ref (P 5), .ref (B i1), .ref (B i2)] h (mcU B Q P ox kn F d r (one ++ other) one.length h) := by
  refine CT_of (by decide +kernel) (Nat.le_of_ble_eq_true rfl) ?_
  intro p e s m args below meth c X E hr hlk hnm
  have dk : ∀ {pc : Nat} {q : Instr × Nat}, lkd DX1_makeAlike pc = some q → decode cX1_makeAlike pc = .ok q := lkd_ok DX1_makeAlike_ok
  obtain ⟨bY, ey1, ey2⟩ := BY_of t1 t2
  have hX := bY.1
  have hX32 := hX.2.2
  have hn1 := bY.2.2.2.1
  have hrm : rmI 51 = 32 := rfl
  have hl1 := N1.len
  have hl2 := N2.len
  have hL := C.2.2.2.lcl
  have NX : TN ((upF F 51 ((F i1).1 ++ (F i2).1, (F i1).2 || (F i2).2)) 51) (one ++ other) := by
    rw [upF_self]
    refine ⟨?_, fun x hx => (List.mem_append.mp hx).elim (N1.2 x) (N2.2 x)⟩
    show (F i1).1 ++ (F i2).1 = (one ++ other).map nI
    rw [N1.1, N2.1, List.map_append]
  have fin : ∀ (b : Bool) (h1 : AH) (k : Nat → Nat) (hd : Nat → Option Nat) (g : Nat → Int32) (ps : PL2), (b = true ↔ ∃ k, MnK (one ++ other) one.length k ∧ AcK (one ++ other) k) → CTG B Q P h1 (upF F 51 ((F i1).1 ++ (F i2).1, (F i1).2 || (F i2).2)) (one ++ other) (nK k) (pK hd) g ps → FrU B Q (LCl P Q) h h1 → (b = true → HDP (one ++ other) k hd ∧ GdK (one ++ other) one.length k ∧ AcK (one ++ other) k ∧ MnK (one ++ other) one.length k) → mcU B Q P ox kn F d r (one ++ other) one.length h (some (.int (bI b))) h1 := fun b h1 k hd g ps e1 T1 f1 e2 => ⟨f1, b, rfl, e1, f1.frC C.1 hL, _, C.cl Y T1 f1, fun i hi => upF_ne _ _ hi, fun z => ⟨k, hd, g, ps, T1, e2 z⟩⟩
  have loop : ∀ (n j : Nat) (k : Nat → Nat) (hd : Nat → Option Nat) (g : Nat → Int32) (sk : PL2) (h1 : AH), sk.length + 3 * fxK (one ++ other).length k ≤ n → j + n ≤ 97 → IC (one ++ other) one.length k hd sk → CTG B Q P h1 (upF F 51 ((F i1).1 ++ (F i2).1, (F i1).2 || (F i2).2)) (one ++ other) (nK k) (pK hd) g sk.reverse → FrU B Q (LCl P Q) h h1 → ∀ l : List (Nat × Value), lsel l [4, 3, 0] = [(4, vI j), (3, .int (bI true)), (0, .ref (P 5))] → WR p la e (rmD 6 0 0) s m args below meth c D cA B0 8 (mcU B Q P ox kn F d r (one ++ other) one.length h) 86 l [] h1 0 0 := by
    intro n
    induction n with
    | zero =>
      intro j k hd g sk h1 hn hj I T1 f1 l hl
      cases sk with
      | nil =>
        obtain ⟨t1, t2, t3, t4, t5, t6, t7⟩ := id T1
        have mn := I.mn
        have HD := I.1
        refine WS.sel [4, 3, 0] hl ?_
        refine fst1_ok X (dk rfl) rfl ?_
        refine ldc_ok X csX1_63 (dk rfl) ?_
        refine br_ok X (dk rfl) rfl (show ((90 : Nat) : Int) + 95 = ((185 : Nat) : Int) from rfl) (fun q => absurd q (by rw [show (1000000 : Int32) = nI 1000000 by decide +kernel]; exact nI_ge (by omega) (by omega))) (fun _ => ?_)
        refine fst1_ok X (dk rfl) rfl ?_
        refine br_ok X (dk rfl) rfl (show ((94 : Nat) : Int) + 91 = ((185 : Nat) : Int) from rfl) (fun q => absurd q bI_t) (fun _ => ?_)
        refine fst1_ok X (dk rfl) rfl ?_
        refine getf_ok X flX1_33 (dk rfl) t3 rfl ?_
        refine callVR_ok (ci := 4) (T := TX2) (N := 3) (av := []) (r := []) X E (s2_length h1 t7) lkX2_length mlX1_64 lmX2_length lpX2_length ⟨Nat.le_of_ble_eq_true rfl, Nat.le_of_ble_eq_true rfl⟩ ⟨Nat.le_of_ble_eq_true rfl, Nat.le_of_ble_eq_true rfl⟩ rfl ⟨_, t7.2.2.1⟩ (Nat.le_of_ble_eq_true rfl) (dk rfl) ?_
        rintro _ rfl
        refine br_ok X (dk rfl) rfl (show ((104 : Nat) : Int) + 81 = ((185 : Nat) : Int) from rfl) (fun _ => ?_) (fun q => absurd (by decide) q)
        refine fst1_ok X (dk rfl) rfl ?_
        refine br_ok X (dk rfl) rfl (show ((186 : Nat) : Int) + 14 = ((200 : Nat) : Int) from rfl) (fun q => absurd q bI_t) (fun _ => ?_)
        refine fst1_ok X (dk rfl) rfl ?_
        refine callVR_ok (ci := 3) (T := TX1) (N := 5) (av := []) (r := []) X E (s1_isNoneInItself h1 T1 bY HD mn.1) lkX1_isNoneInItself mlX1_81 lmX1_isNoneInItself lpX1_isNoneInItself ⟨Nat.le_of_ble_eq_true rfl, Nat.le_of_ble_eq_true rfl⟩ ⟨Nat.le_of_ble_eq_true rfl, Nat.le_of_ble_eq_true rfl⟩ rfl ⟨_, t3⟩ (Nat.le_of_ble_eq_true rfl) (dk rfl) ?_
        rintro _ ⟨b, rfl, hb⟩
        have iff1 : b = true ↔ ∃ k, MnK (one ++ other) one.length k ∧ AcK (one ++ other) k := ⟨fun z => ⟨k, mn, hb.mp z⟩, fun ⟨k2, m2, a2⟩ => hb.mpr (AcK.of m2 mn a2)⟩
        cases b with
        | true =>
          refine br_ok X (dk rfl) rfl (show ((193 : Nat) : Int) + 7 = ((200 : Nat) : Int) from rfl) (fun q => absurd q bI_t) (fun _ => ?_)
          refine fst1_ok X (dk rfl) rfl ?_
          refine br_ok X (dk rfl) rfl (show ((197 : Nat) : Int) + 4 = ((201 : Nat) : Int) from rfl) (fun _ => ?_) (fun q => absurd trivial q)
          exact reti_ok X hr hlk (bI_n true) (dk rfl) (fin true h1 k hd g _ iff1 T1 f1 (fun _ => ⟨HD, mn.1, hb.mp rfl, mn⟩)) (Nat.le_of_ble_eq_true rfl) (Nat.le_of_ble_eq_true rfl)
        | false =>
          refine br_ok X (dk rfl) rfl (show ((193 : Nat) : Int) + 7 = ((200 : Nat) : Int) from rfl) (fun _ => ?_) (fun q => absurd bI_f' q)
          refine fst1_ok X (dk rfl) rfl ?_
          exact reti_ok X hr hlk (bI_n false) (dk rfl) (fin false h1 k hd g _ iff1 T1 f1 (fun z => (by cases z))) (Nat.le_of_ble_eq_true rfl) (Nat.le_of_ble_eq_true rfl)
      | cons z sk =>
        rw [List.length_cons] at hn
        omega
    | succ n ih =>
      intro j k hd g sk h1 hn hj I T1 f1 l hl
      cases sk with
      | nil =>
        obtain ⟨t1, t2, t3, t4, t5, t6, t7⟩ := id T1
        have mn := I.mn
        have HD := I.1
        refine WS.sel [4, 3, 0] hl ?_
        refine fst1_ok X (dk rfl) rfl ?_
        refine ldc_ok X csX1_63 (dk rfl) ?_
        refine br_ok X (dk rfl) rfl (show ((90 : Nat) : Int) + 95 = ((185 : Nat) : Int) from rfl) (fun q => absurd q (by rw [show (1000000 : Int32) = nI 1000000 by decide +kernel]; exact nI_ge (by omega) (by omega))) (fun _ => ?_)
        refine fst1_ok X (dk rfl) rfl ?_
        refine br_ok X (dk rfl) rfl (show ((94 : Nat) : Int) + 91 = ((185 : Nat) : Int) from rfl) (fun q => absurd q bI_t) (fun _ => ?_)
        refine fst1_ok X (dk rfl) rfl ?_
        refine getf_ok X flX1_33 (dk rfl) t3 rfl ?_
        refine callVR_ok (ci := 4) (T := TX2) (N := 3) (av := []) (r := []) X E (s2_length h1 t7) lkX2_length mlX1_64 lmX2_length lpX2_length ⟨Nat.le_of_ble_eq_true rfl, Nat.le_of_ble_eq_true rfl⟩ ⟨Nat.le_of_ble_eq_true rfl, Nat.le_of_ble_eq_true rfl⟩ rfl ⟨_, t7.2.2.1⟩ (Nat.le_of_ble_eq_true rfl) (dk rfl) ?_
        rintro _ rfl
        refine br_ok X (dk rfl) rfl (show ((104 : Nat) : Int) + 81 = ((185 : Nat) : Int) from rfl) (fun _ => ?_) (fun q => absurd (by decide) q)
        refine fst1_ok X (dk rfl) rfl ?_
        refine br_ok X (dk rfl) rfl (show ((186 : Nat) : Int) + 14 = ((200 : Nat) : Int) from rfl) (fun q => absurd q bI_t) (fun _ => ?_)
        refine fst1_ok X (dk rfl) rfl ?_
        refine callVR_ok (ci := 3) (T := TX1) (N := 5) (av := []) (r := []) X E (s1_isNoneInItself h1 T1 bY HD mn.1) lkX1_isNoneInItself mlX1_81 lmX1_isNoneInItself lpX1_isNoneInItself ⟨Nat.le_of_ble_eq_true rfl, Nat.le_of_ble_eq_true rfl⟩ ⟨Nat.le_of_ble_eq_true rfl, Nat.le_of_ble_eq_true rfl⟩ rfl ⟨_, t3⟩ (Nat.le_of_ble_eq_true rfl) (dk rfl) ?_
        rintro _ ⟨b, rfl, hb⟩
        have iff1 : b = true ↔ ∃ k, MnK (one ++ other) one.length k ∧ AcK (one ++ other) k := ⟨fun z => ⟨k, mn, hb.mp z⟩, fun ⟨k2, m2, a2⟩ => hb.mpr (AcK.of m2 mn a2)⟩
        cases b with
        | true =>
          refine br_ok X (dk rfl) rfl (show ((193 : Nat) : Int) + 7 = ((200 : Nat) : Int) from rfl) (fun q => absurd q bI_t) (fun _ => ?_)
          refine fst1_ok X (dk rfl) rfl ?_
          refine br_ok X (dk rfl) rfl (show ((197 : Nat) : Int) + 4 = ((201 : Nat) : Int) from rfl) (fun _ => ?_) (fun q => absurd trivial q)
          exact reti_ok X hr hlk (bI_n true) (dk rfl) (fin true h1 k hd g _ iff1 T1 f1 (fun _ => ⟨HD, mn.1, hb.mp rfl, mn⟩)) (Nat.le_of_ble_eq_true rfl) (Nat.le_of_ble_eq_true rfl)
        | false =>
          refine br_ok X (dk rfl) rfl (show ((193 : Nat) : Int) + 7 = ((200 : Nat) : Int) from rfl) (fun _ => ?_) (fun q => absurd bI_f' q)
          refine fst1_ok X (dk rfl) rfl ?_
          exact reti_ok X hr hlk (bI_n false) (dk rfl) (fin false h1 k hd g _ iff1 T1 f1 (fun z => (by cases z))) (Nat.le_of_ble_eq_true rfl) (Nat.le_of_ble_eq_true rfl)
      | cons z sk =>
        obtain ⟨u1, u2⟩ := z
        obtain ⟨hu1, hu2⟩ := I.2.2.2.2.2 (u1, u2) List.mem_cons_self
        have hu1 : u1 < (one ++ other).length := hu1
        have hu2 : u2 < (one ++ other).length := hu2
        rw [List.reverse_cons] at T1
        rw [List.length_cons] at hn
        obtain ⟨t1, t2, t3, t4, t5, t6, t7⟩ := id T1
        have HD := I.1
        have hk1 : k u1 < 32 := HD.1 u1 (by omega)
        have hk2 : k u2 < 32 := HD.1 u2 (by omega)
        have elen : (sk.reverse ++ [(u1, u2)]).length = sk.length + 1 := by rw [List.length_append, List.length_reverse, List.length_singleton]
        have eget : (sk.reverse ++ [(u1, u2)])[sk.length]? = some (u1, u2) := by
          rw [List.getElem?_append_right (by rw [List.length_reverse]; exact Nat.le_refl _), List.length_reverse, Nat.sub_self]
          rfl
        have fj : Value.int (nI j + Int32.ofInt 1) = vI (j + 1) := congrArg Value.int (by rw [nI_1', nI_add])
        refine WS.sel [4, 3, 0] hl ?_
        refine fst1_ok X (dk rfl) rfl ?_
        refine ldc_ok X csX1_63 (dk rfl) ?_
        refine br_ok X (dk rfl) rfl (show ((90 : Nat) : Int) + 95 = ((185 : Nat) : Int) from rfl) (fun q => absurd q (by rw [show (1000000 : Int32) = nI 1000000 by decide +kernel]; exact nI_ge (by omega) (by omega))) (fun _ => ?_)
        refine fst1_ok X (dk rfl) rfl ?_
        refine br_ok X (dk rfl) rfl (show ((94 : Nat) : Int) + 91 = ((185 : Nat) : Int) from rfl) (fun q => absurd q bI_t) (fun _ => ?_)
        refine fst1_ok X (dk rfl) rfl ?_
        refine getf_ok X flX1_33 (dk rfl) t3 rfl ?_
        refine callVR_ok (ci := 4) (T := TX2) (N := 3) (av := []) (r := []) X E (s2_length h1 t7) lkX2_length mlX1_64 lmX2_length lpX2_length ⟨Nat.le_of_ble_eq_true rfl, Nat.le_of_ble_eq_true rfl⟩ ⟨Nat.le_of_ble_eq_true rfl, Nat.le_of_ble_eq_true rfl⟩ rfl ⟨_, t7.2.2.1⟩ (Nat.le_of_ble_eq_true rfl) (dk rfl) ?_
        rintro _ rfl
        rw [elen]
        refine br_ok X (dk rfl) rfl (show ((104 : Nat) : Int) + 81 = ((185 : Nat) : Int) from rfl) (fun q => absurd q (nI_nle (Nat.succ_pos _) (by omega))) (fun _ => ?_)
        refine fst1_ok X (dk rfl) rfl ?_
        refine getf_ok X flX1_33 (dk rfl) t3 rfl ?_
        refine callVR_ok (ci := 4) (T := TX2) (N := 3) (av := []) (r := []) X E (s2_length h1 t7) lkX2_length mlX1_64 lmX2_length lpX2_length ⟨Nat.le_of_ble_eq_true rfl, Nat.le_of_ble_eq_true rfl⟩ ⟨Nat.le_of_ble_eq_true rfl, Nat.le_of_ble_eq_true rfl⟩ rfl ⟨_, t7.2.2.1⟩ (Nat.le_of_ble_eq_true rfl) (dk rfl) ?_
        rintro _ rfl
        rw [elen]
        iterate 5 refine fst1_ok X (dk rfl) rfl ?_
        rw [nI_1', nI_sub (by omega), Nat.add_sub_cancel]
        refine getf_ok X flX1_33 (dk rfl) t3 rfl ?_
        refine fst1_ok X (dk rfl) rfl ?_
        refine callVR_ok (ci := 4) (T := TX2) (N := 3) (av := [vI sk.length]) (r := [.ref (P 5)]) X E (s2_oneAt h1 t7 eget) lkX2_oneAt mlX1_65 lmX2_oneAt lpX2_oneAt ⟨Nat.le_of_ble_eq_true rfl, Nat.le_of_ble_eq_true rfl⟩ ⟨Nat.le_of_ble_eq_true rfl, Nat.le_of_ble_eq_true rfl⟩ rfl ⟨_, t7.2.2.1⟩ (Nat.le_of_ble_eq_true rfl) (dk rfl) ?_
        rintro _ rfl
        refine callVR_ok (ci := 3) (T := TX1) (N := 5) (av := [vI u1]) (r := []) X E (s1_classAt h1 T1 (z := u1) (by omega)) lkX1_classAt mlX1_68 lmX1_classAt lpX1_classAt ⟨Nat.le_of_ble_eq_true rfl, Nat.le_of_ble_eq_true rfl⟩ ⟨Nat.le_of_ble_eq_true rfl, Nat.le_of_ble_eq_true rfl⟩ rfl ⟨_, t3⟩ (Nat.le_of_ble_eq_true rfl) (dk rfl) ?_
        rintro _ rfl
        iterate 3 refine fst1_ok X (dk rfl) rfl ?_
        refine getf_ok X flX1_33 (dk rfl) t3 rfl ?_
        refine fst1_ok X (dk rfl) rfl ?_
        refine callVR_ok (ci := 4) (T := TX2) (N := 3) (av := [vI sk.length]) (r := [.ref (P 5)]) X E (s2_otherAt h1 t7 eget) lkX2_otherAt mlX1_71 lmX2_otherAt lpX2_otherAt ⟨Nat.le_of_ble_eq_true rfl, Nat.le_of_ble_eq_true rfl⟩ ⟨Nat.le_of_ble_eq_true rfl, Nat.le_of_ble_eq_true rfl⟩ rfl ⟨_, t7.2.2.1⟩ (Nat.le_of_ble_eq_true rfl) (dk rfl) ?_
        rintro _ rfl
        refine callVR_ok (ci := 3) (T := TX1) (N := 5) (av := [vI u2]) (r := []) X E (s1_classAt h1 T1 (z := u2) (by omega)) lkX1_classAt mlX1_68 lmX1_classAt lpX1_classAt ⟨Nat.le_of_ble_eq_true rfl, Nat.le_of_ble_eq_true rfl⟩ ⟨Nat.le_of_ble_eq_true rfl, Nat.le_of_ble_eq_true rfl⟩ rfl ⟨_, t3⟩ (Nat.le_of_ble_eq_true rfl) (dk rfl) ?_
        rintro _ rfl
        rw [show nK k u1 = nI (k u1) from rfl, show nK k u2 = nI (k u2) from rfl]
        iterate 2 refine fst1_ok X (dk rfl) rfl ?_
        refine getf_ok X flX1_33 (dk rfl) t3 rfl ?_
        refine callV_ok (ci := 4) (T := TX2) (N := 3) (av := []) (r := []) X E (s2_dropNext h1 t7) lkX2_dropNext mlX1_74 lmX2_dropNext lpX2_dropNext ⟨Nat.le_of_ble_eq_true rfl, Nat.le_of_ble_eq_true rfl⟩ ⟨Nat.le_of_ble_eq_true rfl, Nat.le_of_ble_eq_true rfl⟩ rfl t7.2.2.1 (Nat.le_of_ble_eq_true rfl) (dk rfl) ?_
        rintro _ h2 ⟨rfl, H2, g2⟩
        have T2 := T1.pr Y H2 g2
        have f2 := f1.trans (g2.u (LCl_p P Q))
        obtain ⟨-, -, s3, -, -, -, s7⟩ := id T2
        iterate 2 refine fst1_ok X (dk rfl) rfl ?_
        by_cases ee : k u1 = k u2
        · refine br_ok X (dk rfl) rfl (show ((159 : Nat) : Int) + 14 = ((173 : Nat) : Int) from rfl) (fun _ => ?_) (fun q => absurd (by rw [ee]) q)
          refine fst1_ok X (dk rfl) rfl ?_
          refine br_ok X (dk rfl) rfl (show ((174 : Nat) : Int) + 4 = ((178 : Nat) : Int) from rfl) (fun _ => ?_) (fun q => absurd trivial q)
          have I2 := I.skip (z := (u1, u2)) ee
          iterate 2 refine fst1_ok X (dk rfl) rfl ?_
          refine br_ok X (dk rfl) rfl (show ((182 : Nat) : Int) + (-96) = ((86 : Nat) : Int) from rfl) (fun _ => ?_) (fun q => absurd trivial q)
          refine WS.sel (l' := [(4, vI (j + 1)), (3, .int (bI true)), (0, .ref (P 5))]) [4, 3, 0] (by rw [← fj]; rfl) ?_
          exact ih (j + 1) k hd g _ h2 (by omega) (by omega) I2 T2 f2 _ rfl
        · refine br_ok X (dk rfl) rfl (show ((159 : Nat) : Int) + 14 = ((173 : Nat) : Int) from rfl) (fun q => absurd (nI_inj (by omega) (by omega) q) ee) (fun _ => ?_)
          iterate 3 refine fst1_ok X (dk rfl) rfl ?_
          refine callV_ok (ci := 3) (T := TX1) (N := 5) (av := [vI (k u1), vI (k u2)]) (r := []) X E (s1_join h2 Y T2 hX (zl := k u1) (zr := k u2) hk1 hk2 HD.1 (fun a ea => (HD.2.2.1 u1 hu1 a ea).1) (fun a ea => (HD.2.2.1 u2 hu2 a ea).1) (by rw [List.length_reverse]; omega)) lkX1_join mlX1_77 lmX1_join lpX1_join ⟨Nat.le_of_ble_eq_true rfl, Nat.le_of_ble_eq_true rfl⟩ ⟨Nat.le_of_ble_eq_true rfl, Nat.le_of_ble_eq_true rfl⟩ rfl s3 (Nat.le_of_ble_eq_true rfl) (dk rfl) ?_
          rintro _ h3 (⟨a, b, ea, eb, hg, rfl, rfl⟩ | ⟨rfl, hgg, T3, g3⟩)
          · refine br_ok X (dk rfl) rfl (show ((170 : Nat) : Int) + 7 = ((177 : Nat) : Int) from rfl) (fun _ => ?_) (fun q => absurd bI_f' q)
            have hno := I.no (z := (u1, u2)) ea eb hg
            iterate 3 refine fst1_ok X (dk rfl) rfl ?_
            refine br_ok X (dk rfl) rfl (show ((182 : Nat) : Int) + (-96) = ((86 : Nat) : Int) from rfl) (fun _ => ?_) (fun q => absurd trivial q)
            refine fst1_ok X (dk rfl) rfl ?_
            refine ldc_ok X csX1_63 (dk rfl) ?_
            refine br_ok X (dk rfl) rfl (show ((90 : Nat) : Int) + 95 = ((185 : Nat) : Int) from rfl) (fun q => absurd q (by rw [show (1000000 : Int32) = nI 1000000 by decide +kernel, nI_1', nI_add]; exact nI_ge (by omega) (by omega))) (fun _ => ?_)
            refine fst1_ok X (dk rfl) rfl ?_
            refine br_ok X (dk rfl) rfl (show ((94 : Nat) : Int) + 91 = ((185 : Nat) : Int) from rfl) (fun _ => ?_) (fun q => absurd bI_f' q)
            refine fst1_ok X (dk rfl) rfl ?_
            refine br_ok X (dk rfl) rfl (show ((186 : Nat) : Int) + 14 = ((200 : Nat) : Int) from rfl) (fun _ => ?_) (fun q => absurd bI_f' q)
            refine fst1_ok X (dk rfl) rfl ?_
            exact reti_ok X hr hlk (bI_n false) (dk rfl) (fin false h3 k hd g _ ⟨fun z => (by cases z), fun ⟨k2, m2, _⟩ => absurd ⟨k2, m2.1⟩ hno⟩ T2 f2 (fun z => (by cases z))) (Nat.le_of_ble_eq_true rfl) (Nat.le_of_ble_eq_true rfl)
          · obtain ⟨I3, m3, m4⟩ := I.mrg hX (z := (u1, u2)) ee hgg
            have m3 : fxK (one ++ other).length (mgK k (k u1) (k u2)) + 1 ≤ fxK (one ++ other).length k := m3
            have m4 : (nwM (one ++ other) hd (k u1) (k u2)).length ≤ 3 := m4
            have f3 := f2.trans g3
            have T4 : CTG B Q P h3 (upF F 51 ((F i1).1 ++ (F i2).1, (F i1).2 || (F i2).2)) (one ++ other) (nK (mgK k (k u1) (k u2))) (pK (hdM k hd (k u1) (k u2))) g (nwM (one ++ other) hd (k u1) (k u2) ++ sk).reverse := by
              refine Eq.mp (congrArg (CTG B Q P h3 (upF F 51 ((F i1).1 ++ (F i2).1, (F i1).2 || (F i2).2)) (one ++ other) (nK (mgK k (k u1) (k u2))) (pK (hdM k hd (k u1) (k u2))) g) ?_) T3
              rw [List.reverse_append]
              congr 1
              unfold nwM
              generalize hd (k u1) = oa
              generalize hd (k u2) = ob
              cases oa <;> cases ob <;> rfl
            refine br_ok X (dk rfl) rfl (show ((170 : Nat) : Int) + 7 = ((177 : Nat) : Int) from rfl) (fun q => absurd q bI_t) (fun _ => ?_)
            refine fst1_ok X (dk rfl) rfl ?_
            refine br_ok X (dk rfl) rfl (show ((174 : Nat) : Int) + 4 = ((178 : Nat) : Int) from rfl) (fun _ => ?_) (fun q => absurd trivial q)
            iterate 2 refine fst1_ok X (dk rfl) rfl ?_
            refine br_ok X (dk rfl) rfl (show ((182 : Nat) : Int) + (-96) = ((86 : Nat) : Int) from rfl) (fun _ => ?_) (fun q => absurd trivial q)
            refine WS.sel (l' := [(4, vI (j + 1)), (3, .int (bI true)), (0, .ref (P 5))]) [4, 3, 0] (by rw [← fj]; rfl) ?_
            exact ih (j + 1) (mgK k (k u1) (k u2)) (hdM k hd (k u1) (k u2)) g _ h3 (by rw [List.length_append]; omega) (by omega) I3 T4 f3 _ rfl
  have fill : ∀ (u i : Nat) (g1 g2 g3 : Nat → Int32) (h1 : AH), u + i = 32 → CTW B Q P h1 (upF F 51 ((F i1).1 ++ (F i2).1, (F i1).2 || (F i2).2)) (one ++ other) g1 g2 g3 → (∀ y, y < i → g1 y = nK (flX (one ++ other)) y ∧ g2 y = pK (hd0 (one ++ other)) y) → FrU B Q (LCl P Q) h h1 → ∀ l : List (Nat × Value), lsel l [3, 1, 0] = [(3, vI i), (1, .ref (B i1)), (0, .ref (P 5))] → WR p la e (rmD 6 0 0) s m args below meth c D cA B0 8 (mcU B Q P ox kn F d r (one ++ other) one.length h) 11 l [] h1 0 0 := by
    intro u
    induction u with
    | zero =>
      intro i g1 g2 g3 h1 hi T1 hg f1 l hl
      have hi32 : i = 32 := by omega
      subst hi32
      obtain ⟨t1, t2, t3, t4, t5, t6, t7⟩ := id T1
      refine WS.sel [3, 1, 0] hl ?_
      iterate 2 refine fst1_ok X (dk rfl) rfl ?_
      refine br_ok X (dk rfl) rfl (show ((14 : Nat) : Int) + 48 = ((62 : Nat) : Int) from rfl) (fun _ => ?_) (fun q => absurd (by rw [nI_32']; exact Int32.le_refl _) q)
      refine fst1_ok X (dk rfl) rfl ?_
      refine getf_ok X flX1_33 (dk rfl) t3 rfl ?_
      refine callV_ok (ci := 4) (T := TX2) (N := 3) (av := []) (r := []) X E (s2_empty h1 t7) lkX2_empty mlX1_52 lmX2_empty lpX2_empty ⟨Nat.le_of_ble_eq_true rfl, Nat.le_of_ble_eq_true rfl⟩ ⟨Nat.le_of_ble_eq_true rfl, Nat.le_of_ble_eq_true rfl⟩ rfl t7.1.choose_spec.2 (Nat.le_of_ble_eq_true rfl) (dk rfl) ?_
      rintro _ h2 ⟨rfl, H2, f2⟩
      have T2 := T1.pr Y H2 f2
      obtain ⟨s1, s2, s3, s4, s5, s6, s7⟩ := id T2
      refine fst1_ok X (dk rfl) rfl ?_
      refine getf_ok X flX1_33 (dk rfl) s3 rfl ?_
      iterate 2 refine fst1_ok X (dk rfl) rfl ?_
      refine callVR_ok (ci := 7) (T := TX5) (N := 3) (av := []) (r := [vI 0, .ref (P 14)]) X E (s5_length h2 s1 h1i) lkX5_length mlX1_55 lmX5_length lpX5_length ⟨Nat.le_of_ble_eq_true rfl, Nat.le_of_ble_eq_true rfl⟩ ⟨Nat.le_of_ble_eq_true rfl, Nat.le_of_ble_eq_true rfl⟩ rfl ⟨_, (s1 i1 h1i).2.1⟩ (Nat.le_of_ble_eq_true rfl) (dk rfl) ?_
      rintro _ rfl
      rw [upF_ne _ _ h1n, hl1]
      refine callV_ok (ci := 4) (T := TX2) (N := 3) (av := [vI 0, vI one.length]) (r := []) X E (s2_add h2 H2 (Yne Y (by decide) (by decide) (by decide)) (ta := 0) (tb := one.length) ⟨by omega, by omega⟩ (by decide)) lkX2_add mlX1_59 lmX2_add lpX2_add ⟨Nat.le_of_ble_eq_true rfl, Nat.le_of_ble_eq_true rfl⟩ ⟨Nat.le_of_ble_eq_true rfl, Nat.le_of_ble_eq_true rfl⟩ rfl H2.2.2.1 (Nat.le_of_ble_eq_true rfl) (dk rfl) ?_
      rintro _ h3 ⟨rfl, H3, f3⟩
      have T3 := (T2.pr Y H3 f3).congr (fun y hy => (hg y hy).1) (fun y hy => (hg y hy).2)
      have f23 := (f1.trans (f2.u (LCl_p P Q))).trans (f3.u (LCl_p P Q))
      iterate 4 refine fst1_ok X (dk rfl) rfl ?_
      refine WS.sel (l' := [(4, vI 0), (3, .int (bI true)), (0, .ref (P 5))]) [4, 3, 0] (rfl) ?_
      have hfx := fxK_le (one ++ other).length (flX (one ++ other))
      exact loop 97 0 _ _ g3 [(0, one.length)] h3 (by rw [List.length_singleton]; omega) (by omega) (IC0 bY) T3 f23 _ rfl
    | succ u ih =>
      intro i g1 g2 g3 h1 hi T1 hg f1 l hl
      obtain ⟨t1, t2, t3, ⟨ra, ra1, ra2, ra3⟩, t5, t6, t7⟩ := id T1
      have fi : Value.int (nI i + Int32.ofInt 1) = vI (i + 1) := congrArg Value.int (by rw [nI_1', nI_add])
      refine WS.sel [3, 1, 0] hl ?_
      iterate 2 refine fst1_ok X (dk rfl) rfl ?_
      refine br_ok X (dk rfl) rfl (show ((14 : Nat) : Int) + 48 = ((62 : Nat) : Int) from rfl) (fun q => absurd q (by rw [nI_32']; exact nI_ge (by omega) (by omega))) (fun _ => ?_)
      refine fst1_ok X (dk rfl) rfl ?_
      refine getf_ok X flX1_20 (dk rfl) t3 rfl ?_
      iterate 2 refine fst1_ok X (dk rfl) rfl ?_
      refine getf_ok X flX1_16 (dk rfl) t3 rfl ?_
      refine fst1_ok X (dk rfl) rfl ?_
      refine callVR_ok (ci := 7) (T := TX5) (N := 3) (av := [vI i]) (r := [vI i, .ref (Q 61)]) X E (s5_firstLike h1 t1 (ib := 51) (by omega) hX t2 (z := i) (by omega)) lkX5_firstLike mlX1_41 lmX5_firstLike lpX5_firstLike ⟨Nat.le_of_ble_eq_true rfl, Nat.le_of_ble_eq_true rfl⟩ ⟨Nat.le_of_ble_eq_true rfl, Nat.le_of_ble_eq_true rfl⟩ rfl ⟨_, (t1 51 (by omega)).2.1⟩ (Nat.le_of_ble_eq_true rfl) (dk rfl) ?_
      rintro _ rfl
      refine ast7_ok X (dk rfl) ra1 (nI_pos (by omega)) (by rw [nI_clamp (by omega)]; omega) ?_
      rw [nI_clamp (by omega)]
      have T2 := T1.s1 Y ra1 (x := i) (by omega) (nI (flX (one ++ other) i))
      have f2 := f1.set (LCl_q P Q).1 (107, (ra.set i (nI (flX (one ++ other) i))).map Value.int)
      obtain ⟨s1, s2, s3, s4, ⟨rb, rb1, rb2, rb3⟩, s6, s7⟩ := id T2
      refine fst1_ok X (dk rfl) rfl ?_
      refine getf_ok X flX1_24 (dk rfl) s3 rfl ?_
      iterate 2 refine fst1_ok X (dk rfl) rfl ?_
      refine getf_ok X flX1_16 (dk rfl) s3 rfl ?_
      refine fst1_ok X (dk rfl) rfl ?_
      refine callVR_ok (ci := 7) (T := TX5) (N := 3) (av := [vI i]) (r := [vI i, .ref (Q 62)]) X E (s5_letterAt _ s1 (i := 51) (by omega) (nI i)) lkX5_letterAt mlX1_45 lmX5_letterAt lpX5_letterAt ⟨Nat.le_of_ble_eq_true rfl, Nat.le_of_ble_eq_true rfl⟩ ⟨Nat.le_of_ble_eq_true rfl, Nat.le_of_ble_eq_true rfl⟩ rfl ⟨_, (s1 51 (by omega)).2.1⟩ (Nat.le_of_ble_eq_true rfl) (dk rfl) ?_
      rintro _ rfl
      rcases Nat.lt_or_ge i (one ++ other).length with hil | hil
      · have hgi := gl_get hil
        have ogi := gl_ok hX hil
        have lti := ogi.lt
        rw [s2.lt hgi (by omega)]
        refine callNR_ok (av := [vI (gl (one ++ other) i)]) (r := [vI i, .ref (Q 62)]) X E (s6_isHead _ (x := gl (one ++ other) i) (by omega)) lkX6_isHead mnX1_48 lsX6_isHead ⟨Nat.le_of_ble_eq_true rfl, Nat.le_of_ble_eq_true rfl⟩ ⟨Nat.le_of_ble_eq_true rfl, Nat.le_of_ble_eq_true rfl⟩ (Nat.le_of_ble_eq_true rfl) (dk rfl) ?_
        rintro _ rfl
        by_cases h10 : 10 ≤ gl (one ++ other) i
        · rw [decide_eq_true ⟨h10, by rcases ogi with z | z <;> omega⟩]
          refine br_ok X (dk rfl) rfl (show ((47 : Nat) : Int) + 7 = ((54 : Nat) : Int) from rfl) (fun q => absurd q bI_t) (fun _ => ?_)
          have ehd : nI i = pK (hd0 (one ++ other)) i := by
            show _ = pI (hd0 (one ++ other) i)
            unfold hd0
            rw [if_pos ⟨hil, h10⟩]
            rfl
          refine fst1_ok X (dk rfl) rfl ?_
          refine br_ok X (dk rfl) rfl (show ((51 : Nat) : Int) + 4 = ((55 : Nat) : Int) from rfl) (fun _ => ?_) (fun q => absurd trivial q)
          refine ast7_ok X (dk rfl) rb1 (nI_pos (by omega)) (by rw [nI_clamp (by omega)]; omega) ?_
          rw [nI_clamp (by omega)]
          have T3 := T2.s2 Y rb1 (x := i) (by omega) (nI i)
          have f3 := f2.set (LCl_q P Q).2.1 (107, (rb.set i (nI i)).map Value.int)
          refine fst1_ok X (dk rfl) rfl ?_
          refine br_ok X (dk rfl) rfl (show ((59 : Nat) : Int) + (-48) = ((11 : Nat) : Int) from rfl) (fun _ => ?_) (fun q => absurd trivial q)
          refine WS.sel (l' := [(3, vI (i + 1)), (1, .ref (B i1)), (0, .ref (P 5))]) [3, 1, 0] (by rw [← fi]; rfl) ?_
          exact ih (i + 1) _ _ g3 _ (by omega) T3 (fun y hy => by
            unfold up1
            by_cases e9 : y = i
            · rw [if_pos e9, if_pos e9, e9]
              exact ⟨rfl, ehd⟩
            · rw [if_neg e9, if_neg e9]
              exact hg y (by omega)) f3 _ rfl
        · rw [decide_eq_false (fun z => h10 z.1)]
          have hno : ¬ (i < (one ++ other).length ∧ 10 ≤ gl (one ++ other) i) := fun z => h10 z.2
          refine br_ok X (dk rfl) rfl (show ((47 : Nat) : Int) + 7 = ((54 : Nat) : Int) from rfl) (fun _ => ?_) (fun q => absurd bI_f' q)
          have ehd : Int32.ofInt (-1) = pK (hd0 (one ++ other)) i := by
            show _ = pI (hd0 (one ++ other) i)
            unfold hd0
            rw [if_neg hno]
            rfl
          refine fst1_ok X (dk rfl) rfl ?_
          refine ast7_ok X (dk rfl) rb1 (nI_pos (by omega)) (by rw [nI_clamp (by omega)]; omega) ?_
          rw [nI_clamp (by omega)]
          have T3 := T2.s2 Y rb1 (x := i) (by omega) (Int32.ofInt (-1))
          have f3 := f2.set (LCl_q P Q).2.1 (107, (rb.set i (Int32.ofInt (-1))).map Value.int)
          refine fst1_ok X (dk rfl) rfl ?_
          refine br_ok X (dk rfl) rfl (show ((59 : Nat) : Int) + (-48) = ((11 : Nat) : Int) from rfl) (fun _ => ?_) (fun q => absurd trivial q)
          refine WS.sel (l' := [(3, vI (i + 1)), (1, .ref (B i1)), (0, .ref (P 5))]) [3, 1, 0] (by rw [← fi]; rfl) ?_
          exact ih (i + 1) _ _ g3 _ (by omega) T3 (fun y hy => by
            unfold up1
            by_cases e9 : y = i
            · rw [if_pos e9, if_pos e9, e9]
              exact ⟨rfl, ehd⟩
            · rw [if_neg e9, if_neg e9]
              exact hg y (by omega)) f3 _ rfl
      · rw [s2.out hil (by omega)]
        have hno : ¬ (i < (one ++ other).length ∧ 10 ≤ gl (one ++ other) i) := fun z => by omega
        refine callNR_ok (av := [.int (Int8.ofInt (-9)).toInt32]) (r := [vI i, .ref (Q 62)]) X E (s6_isHead9 _) lkX6_isHead mnX1_48 lsX6_isHead ⟨Nat.le_of_ble_eq_true rfl, Nat.le_of_ble_eq_true rfl⟩ ⟨Nat.le_of_ble_eq_true rfl, Nat.le_of_ble_eq_true rfl⟩ (Nat.le_of_ble_eq_true rfl) (dk rfl) ?_
        rintro _ rfl
        refine br_ok X (dk rfl) rfl (show ((47 : Nat) : Int) + 7 = ((54 : Nat) : Int) from rfl) (fun _ => ?_) (fun q => absurd bI_f' q)
        have ehd : Int32.ofInt (-1) = pK (hd0 (one ++ other)) i := by
          show _ = pI (hd0 (one ++ other) i)
          unfold hd0
          rw [if_neg hno]
          rfl
        refine fst1_ok X (dk rfl) rfl ?_
        refine ast7_ok X (dk rfl) rb1 (nI_pos (by omega)) (by rw [nI_clamp (by omega)]; omega) ?_
        rw [nI_clamp (by omega)]
        have T3 := T2.s2 Y rb1 (x := i) (by omega) (Int32.ofInt (-1))
        have f3 := f2.set (LCl_q P Q).2.1 (107, (rb.set i (Int32.ofInt (-1))).map Value.int)
        refine fst1_ok X (dk rfl) rfl ?_
        refine br_ok X (dk rfl) rfl (show ((59 : Nat) : Int) + (-48) = ((11 : Nat) : Int) from rfl) (fun _ => ?_) (fun q => absurd trivial q)
        refine WS.sel (l' := [(3, vI (i + 1)), (1, .ref (B i1)), (0, .ref (P 5))]) [3, 1, 0] (by rw [← fi]; rfl) ?_
        exact ih (i + 1) _ _ g3 _ (by omega) T3 (fun y hy => by
          unfold up1
          by_cases e9 : y = i
          · rw [if_pos e9, if_pos e9, e9]
            exact ⟨rfl, ehd⟩
          · rw [if_neg e9, if_neg e9]
            exact hg y (by omega)) f3 _ rfl
  obtain ⟨r1, r2, r3, r4, r5⟩ := id C.2.2.2
  refine fst1_ok X (dk rfl) rfl ?_
  refine getf_ok X flX1_16 (dk rfl) r2 rfl ?_
  iterate 2 refine fst1_ok X (dk rfl) rfl ?_
  refine callVT_ok (ci := 7) (T := TX5) (N := 3) (av := [.ref (B i1), .ref (B i2)]) (r := []) X E (s5_becomeBoth h Y C.1 (i := 51) (by omega) (j := i1) h1i h1n (k := i2) h2i h2n (by rw [hl1, hl2, hrm]; rw [List.length_append] at hX32; omega)) lkX5_becomeBoth mlX1_37 lmX5_becomeBoth lpX5_becomeBoth ⟨Nat.le_of_ble_eq_true rfl, Nat.le_of_ble_eq_true rfl⟩ ⟨Nat.le_of_ble_eq_true rfl, Nat.le_of_ble_eq_true rfl⟩ rfl (C.1 51 (by omega)).2.1 (Nat.le_of_ble_eq_true rfl) (dk rfl) (fun h1 S1 f1 => ?_)
  have C1 := C.tm Y S1 f1
  obtain ⟨-, g1, -, -, g5⟩ := id C1.2.2.2
  obtain ⟨xa, xa1, xa2⟩ := g5 61 (by decide) (by decide)
  obtain ⟨xb, xb1, xb2⟩ := g5 62 (by decide) (by decide)
  obtain ⟨xc, xc1, xc2⟩ := g5 63 (by decide) (by decide)
  obtain ⟨ga1, RA⟩ := RW1.ex xa1 xa2
  obtain ⟨gb1, RB⟩ := RW1.ex xb1 xb2
  obtain ⟨gc1, RC⟩ := RW1.ex xc1 xc2
  have W1 := C1.2.2.2.prw (k := 1) (by decide)
  iterate 2 refine fst1_ok X (dk rfl) rfl ?_
  exact fill 32 0 ga1 gb1 gc1 h1 rfl ⟨S1, NX, g1, RA, RB, RC, W1⟩ (fun y hy => absurd hy (Nat.not_lt_zero y)) (f1.u _) _ rfl
set_option maxHeartbeats 32000000 in
theorem s6_ansSound (h : AH) (Y : LYO B Q) (C : CLS B Q P ox kn h F d r) {j : Nat} (hj : j < 6) {nj : List Nat} (tj : TN (F j) nj) (wj : TW nj) (lj : nj.length ≤ 16) {i : Nat} (hi : i < 6) {ni : List Nat} (ti : TN (F i) ni) (wi : TW ni) (li : ni.length ≤ 16) {rows : List (List Nat)} (m1 : MDR F 34 rows) (m2 : MDR F 42 rows) (hu : AO rows → usedL rows nj = usedL rows ni) : CT la D cA B0 pa yX6_areAnswersSound cX6_areAnswersSound 3 (some .boolean) (rmD 5 0 0) [.ref ox, .ref (B j), .ref (B i)] h (fun v h' => v = some (.int (bI true)) ∧ ∃ F', CLS B Q P ox kn h' F' d r ∧ (∀ q, q < 30 → F' q = F q) ∧ FrC h h') := by
  refine CT_of (by decide +kernel) (Nat.le_of_ble_eq_true rfl) ?_
  intro p e s m args below meth c X E hr hlk hnm
  have dk : ∀ {pc : Nat} {q : Instr × Nat}, lkd DX6_areAnswersSound pc = some q → decode cX6_areAnswersSound pc = .ok q := lkd_ok DX6_areAnswersSound_ok
  have oa := C.2.2.1.2.2.2.1
  have ob := C.2.2.1.2.2.2.2
  have e1 := m1.tl
  have e2 := m2.tl
  refine fst1_ok X (dk rfl) rfl ?_
  refine getf_ok X flX6_38 (dk rfl) C.2.1 rfl ?_
  refine callVR_ok (ci := 2) (T := TX0) (N := 1) (av := []) (r := []) X E (s0_isTooLong h C.1 oa) lkX0_isTooLong mlX6_230 lmX0_isTooLong lpX0_isTooLong ⟨Nat.le_of_ble_eq_true rfl, Nat.le_of_ble_eq_true rfl⟩ ⟨Nat.le_of_ble_eq_true rfl, Nat.le_of_ble_eq_true rfl⟩ rfl ⟨_, oa.2.choose_spec.1⟩ (Nat.le_of_ble_eq_true rfl) (dk rfl) ?_
  rintro _ rfl
  rw [e1]
  cases eb : rows.any (fun z => decide (16 < z.length)) with
  | true =>
    refine br_ok X (dk rfl) rfl (show ((7 : Nat) : Int) + 15 = ((22 : Nat) : Int) from rfl) (fun q => absurd q bI_t) (fun _ => ?_)
    refine fst1_ok X (dk rfl) rfl ?_
    refine getf_ok X flX6_42 (dk rfl) C.2.1 rfl ?_
    refine callVR_ok (ci := 2) (T := TX0) (N := 1) (av := []) (r := []) X E (s0_isTooLong h C.1 ob) lkX0_isTooLong mlX6_230 lmX0_isTooLong lpX0_isTooLong ⟨Nat.le_of_ble_eq_true rfl, Nat.le_of_ble_eq_true rfl⟩ ⟨Nat.le_of_ble_eq_true rfl, Nat.le_of_ble_eq_true rfl⟩ rfl ⟨_, ob.2.choose_spec.1⟩ (Nat.le_of_ble_eq_true rfl) (dk rfl) ?_
    rintro _ rfl
    rw [e2, eb]
    refine br_ok X (dk rfl) rfl (show ((17 : Nat) : Int) + 5 = ((22 : Nat) : Int) from rfl) (fun q => absurd q bI_t) (fun _ => ?_)
    refine fst1_ok X (dk rfl) rfl ?_
    exact reti_ok X hr hlk (bI_n true) (dk rfl) (⟨rfl, _, C, fun _ _ => rfl, FrC.rf _⟩) (Nat.le_of_ble_eq_true rfl) (Nat.le_of_ble_eq_true rfl)
  | false =>
    have R1 := m1.short eb
    have R2 := m2.short eb
    refine br_ok X (dk rfl) rfl (show ((7 : Nat) : Int) + 15 = ((22 : Nat) : Int) from rfl) (fun _ => ?_) (fun q => absurd bI_f' q)
    refine fst1_ok X (dk rfl) rfl ?_
    refine getf_ok X flX6_38 (dk rfl) C.2.1 rfl ?_
    refine callVR_ok (ci := 2) (T := TX0) (N := 1) (av := []) (r := []) X E (s0_isTooLong h C.1 oa) lkX0_isTooLong mlX6_230 lmX0_isTooLong lpX0_isTooLong ⟨Nat.le_of_ble_eq_true rfl, Nat.le_of_ble_eq_true rfl⟩ ⟨Nat.le_of_ble_eq_true rfl, Nat.le_of_ble_eq_true rfl⟩ rfl ⟨_, oa.2.choose_spec.1⟩ (Nat.le_of_ble_eq_true rfl) (dk rfl) ?_
    rintro _ rfl
    rw [e1, eb]
    refine br_ok X (dk rfl) rfl (show ((29 : Nat) : Int) + 45 = ((74 : Nat) : Int) from rfl) (fun q => absurd q bI_f) (fun _ => ?_)
    refine fst1_ok X (dk rfl) rfl ?_
    refine getf_ok X flX6_42 (dk rfl) C.2.1 rfl ?_
    refine callVR_ok (ci := 2) (T := TX0) (N := 1) (av := []) (r := []) X E (s0_isTooLong h C.1 ob) lkX0_isTooLong mlX6_230 lmX0_isTooLong lpX0_isTooLong ⟨Nat.le_of_ble_eq_true rfl, Nat.le_of_ble_eq_true rfl⟩ ⟨Nat.le_of_ble_eq_true rfl, Nat.le_of_ble_eq_true rfl⟩ rfl ⟨_, ob.2.choose_spec.1⟩ (Nat.le_of_ble_eq_true rfl) (dk rfl) ?_
    rintro _ rfl
    rw [e2, eb]
    refine br_ok X (dk rfl) rfl (show ((39 : Nat) : Int) + 35 = ((74 : Nat) : Int) from rfl) (fun q => absurd q bI_f) (fun _ => ?_)
    refine fst1_ok X (dk rfl) rfl ?_
    refine getf_ok X flX6_38 (dk rfl) C.2.1 rfl ?_
    refine fst1_ok X (dk rfl) rfl ?_
    refine getf_ok X flX6_42 (dk rfl) C.2.1 rfl ?_
    refine callVR_ok (ci := 2) (T := TX0) (N := 1) (av := [.ref (P 3)]) (r := []) X E (s0_firstUnlike h C.1 oa ob R1 R2) lkX0_firstUnlike mlX6_233 lmX0_firstUnlike lpX0_firstUnlike ⟨Nat.le_of_ble_eq_true rfl, Nat.le_of_ble_eq_true rfl⟩ ⟨Nat.le_of_ble_eq_true rfl, Nat.le_of_ble_eq_true rfl⟩ rfl ⟨_, oa.2.choose_spec.1⟩ (Nat.le_of_ble_eq_true rfl) (dk rfl) ?_
    rintro _ rfl
    rw [(ulN_none m1.1 m1.1).mpr rfl]
    refine fst1_ok X (dk rfl) rfl ?_
    refine br_ok X (dk rfl) rfl (show ((54 : Nat) : Int) + 20 = ((74 : Nat) : Int) from rfl) (fun q => absurd rfl q) (fun _ => ?_)
    iterate 2 refine fst1_ok X (dk rfl) rfl ?_
    refine getf_ok X flX6_38 (dk rfl) C.2.1 rfl ?_
    iterate 2 refine fst1_ok X (dk rfl) rfl ?_
    refine callV_ok (ci := 8) (T := TX6) (N := 14) (av := [.ref (P 2), .ref (B j), .ref (B i)]) (r := []) X E (s6_isMade h Y C oa (by omega) R1 (j := j) (by omega) tj wj lj (i := i) (by omega) ti wi li) lkX6_isMadeAlikeBy mlX6_222 lmX6_isMadeAlikeBy lpX6_isMadeAlikeBy ⟨Nat.le_of_ble_eq_true rfl, Nat.le_of_ble_eq_true rfl⟩ ⟨Nat.le_of_ble_eq_true rfl, Nat.le_of_ble_eq_true rfl⟩ rfl C.2.1 (Nat.le_of_ble_eq_true rfl) (dk rfl) ?_
    rintro _ h2 ⟨rfl, F2, C2, eF, f2⟩
    rw [decide_eq_true (hu R1.ao)]
    refine br_ok X (dk rfl) rfl (show ((67 : Nat) : Int) + 7 = ((74 : Nat) : Int) from rfl) (fun q => absurd q bI_t) (fun _ => ?_)
    refine fst1_ok X (dk rfl) rfl ?_
    refine br_ok X (dk rfl) rfl (show ((71 : Nat) : Int) + 4 = ((75 : Nat) : Int) from rfl) (fun _ => ?_) (fun q => absurd trivial q)
    exact reti_ok X hr hlk (bI_n true) (dk rfl) (⟨rfl, F2, C2, fun q hq => eF q (by omega) (by omega), f2⟩) (Nat.le_of_ble_eq_true rfl) (Nat.le_of_ble_eq_true rfl)
set_option maxHeartbeats 32000000 in
theorem s6_comSound (h : AH) (Y : LYO B Q) (C : CLS B Q P ox kn h F d r) {j : Nat} (hj : j < 6) {nj : List Nat} (tj : TN (F j) nj) (wj : TW nj) (lj : nj.length ≤ 16) {i : Nat} (hi : i < 6) {ni : List Nat} (ti : TN (F i) ni) (wi : TW ni) (li : ni.length ≤ 16) : CT la D cA B0 pa yX6_isCommonSound cX6_isCommonSound 3 (some .boolean) (rmD 5 0 0) [.ref ox, .ref (B j), .ref (B i)] h (fun v h' => v = some (.int (bI true)) ∧ ∃ F', CLS B Q P ox kn h' F' d r ∧ (∀ q, q < 30 → F' q = F q) ∧ FrC h h') := by
  refine CT_of (by decide +kernel) (Nat.le_of_ble_eq_true rfl) ?_
  intro p e s m args below meth c X E hr hlk hnm
  have dk : ∀ {pc : Nat} {q : Instr × Nat}, lkd DX6_isCommonSound pc = some q → decode cX6_isCommonSound pc = .ok q := lkd_ok DX6_isCommonSound_ok
  have hpr := C.2.2.2.prw (k := 2) (by decide)
  have hsh := C.2.2.2.2.2.1
  have oa := C.2.2.1.2.2.2.1
  refine fst1_ok X (dk rfl) rfl ?_
  refine getf_ok X flX6_62 (dk rfl) C.2.1 rfl ?_
  iterate 3 refine fst1_ok X (dk rfl) rfl ?_
  refine getf_ok X flX6_24 (dk rfl) C.2.1 rfl ?_
  refine callV_ok (ci := 5) (T := TX3) (N := 1) (av := [.ref (B j), .ref (B i), .ref (B 30)]) (r := []) X E (s3_drawInto h Y hpr (hAq Y (by decide) (by decide) (by decide) (by decide)) C.1 hsh (Yne Y (by decide) (by decide) (by decide)) (i1 := j) (by omega) tj wj lj (i2 := i) (by omega) ti wi li (i3 := 30) (by omega) (by omega) (by omega)) lkX3_drawInto mlX6_159 lmX3_drawInto lpX3_drawInto ⟨Nat.le_of_ble_eq_true rfl, Nat.le_of_ble_eq_true rfl⟩ ⟨Nat.le_of_ble_eq_true rfl, Nat.le_of_ble_eq_true rfl⟩ rfl hsh (Nat.le_of_ble_eq_true rfl) (dk rfl) ?_
  rintro _ h2 ⟨rfl, W2, S2, f2⟩
  obtain ⟨C2, g2⟩ := C.sh Y S2 W2 f2
  by_cases h8 : (comL nj ni).1.length ≤ 8
  · obtain ⟨wc, lc⟩ := comL_ok wj wi lj li h8
    obtain ⟨q1, q2⟩ := comL_match h8
    have oa2 := C2.2.2.1.2.2.2.1
    have t30 : TN (upF F 30 ((comL nj ni).2.map nI, false) 30) (comL nj ni).2 := by
      rw [upF_self]
      exact ⟨rfl, wc.2⟩
    have tj2 : TN (upF F 30 ((comL nj ni).2.map nI, false) j) nj := by
      rw [upF_ne _ _ (by omega)]
      exact tj
    rw [decide_eq_true h8]
    refine br_ok X (dk rfl) rfl (show ((13 : Nat) : Int) + 33 = ((46 : Nat) : Int) from rfl) (fun q => absurd q bI_t) (fun _ => ?_)
    refine fst1_ok X (dk rfl) rfl ?_
    refine getf_ok X flX6_38 (dk rfl) C2.2.1 rfl ?_
    refine fst1_ok X (dk rfl) rfl ?_
    refine getf_ok X flX6_24 (dk rfl) C2.2.1 rfl ?_
    refine fst1_ok X (dk rfl) rfl ?_
    refine callV_ok (ci := 2) (T := TX0) (N := 1) (av := [.ref (B 30), .ref (B j)]) (r := []) X E (s0_becomeMatch h2 Y C2.1 oa2 (fun n hn => by unfold rmI; rw [if_neg (by omega), if_neg (by omega), if_pos (by omega)]) (i1 := 30) (by omega) t30 (by omega) (i2 := j) (by omega) tj2 (by omega) wj lj) lkX0_becomeMatch mlX6_194 lmX0_becomeMatch lpX0_becomeMatch ⟨Nat.le_of_ble_eq_true rfl, Nat.le_of_ble_eq_true rfl⟩ ⟨Nat.le_of_ble_eq_true rfl, Nat.le_of_ble_eq_true rfl⟩ rfl oa2.2.choose_spec.1 (Nat.le_of_ble_eq_true rfl) (dk rfl) ?_
    rintro _ h3 ⟨rfl, f3, G3, S3, g3⟩
    have C3 := C2.tm Y S3 f3
    have oa3 := C3.2.2.1.2.2.2.1
    have t31 : TN (upK (upF F 30 ((comL nj ni).2.map nI, false)) 34 G3 8 30) (comL nj ni).2 := by
      rw [upK_out _ _ _ (by omega)]
      exact t30
    have ti3 : TN (upK (upF F 30 ((comL nj ni).2.map nI, false)) 34 G3 8 i) ni := by
      rw [upK_out _ _ _ (by omega), upF_ne _ _ (by omega)]
      exact ti
    rw [q1]
    refine br_ok X (dk rfl) rfl (show ((28 : Nat) : Int) + 22 = ((50 : Nat) : Int) from rfl) (fun q => absurd q bI_t) (fun _ => ?_)
    refine fst1_ok X (dk rfl) rfl ?_
    refine getf_ok X flX6_38 (dk rfl) C3.2.1 rfl ?_
    refine fst1_ok X (dk rfl) rfl ?_
    refine getf_ok X flX6_24 (dk rfl) C3.2.1 rfl ?_
    refine fst1_ok X (dk rfl) rfl ?_
    refine callV_ok (ci := 2) (T := TX0) (N := 1) (av := [.ref (B 30), .ref (B i)]) (r := []) X E (s0_becomeMatch h3 Y C3.1 oa3 (fun n hn => by unfold rmI; rw [if_neg (by omega), if_neg (by omega), if_pos (by omega)]) (i1 := 30) (by omega) t31 (by omega) (i2 := i) (by omega) ti3 (by omega) wi li) lkX0_becomeMatch mlX6_194 lmX0_becomeMatch lpX0_becomeMatch ⟨Nat.le_of_ble_eq_true rfl, Nat.le_of_ble_eq_true rfl⟩ ⟨Nat.le_of_ble_eq_true rfl, Nat.le_of_ble_eq_true rfl⟩ rfl oa3.2.choose_spec.1 (Nat.le_of_ble_eq_true rfl) (dk rfl) ?_
    rintro _ h4 ⟨rfl, f4, G4, S4, g4⟩
    have C4 := C3.tm Y S4 f4
    rw [q2]
    refine br_ok X (dk rfl) rfl (show ((43 : Nat) : Int) + 7 = ((50 : Nat) : Int) from rfl) (fun q => absurd q bI_t) (fun _ => ?_)
    refine fst1_ok X (dk rfl) rfl ?_
    refine br_ok X (dk rfl) rfl (show ((47 : Nat) : Int) + 4 = ((51 : Nat) : Int) from rfl) (fun _ => ?_) (fun q => absurd trivial q)
    exact reti_ok X hr hlk (bI_n true) (dk rfl) (⟨rfl, _, C4, fun q hq => by rw [upK_out _ _ _ (by omega), upK_out _ _ _ (by omega), upF_ne _ _ (by omega)], (g2.trans (f3.frC C2.1)).trans (f4.frC C3.1)⟩) (Nat.le_of_ble_eq_true rfl) (Nat.le_of_ble_eq_true rfl)
  · rw [decide_eq_false h8]
    refine br_ok X (dk rfl) rfl (show ((13 : Nat) : Int) + 33 = ((46 : Nat) : Int) from rfl) (fun _ => ?_) (fun q => absurd bI_f' q)
    refine fst1_ok X (dk rfl) rfl ?_
    refine br_ok X (dk rfl) rfl (show ((47 : Nat) : Int) + 4 = ((51 : Nat) : Int) from rfl) (fun _ => ?_) (fun q => absurd trivial q)
    exact reti_ok X hr hlk (bI_n true) (dk rfl) (⟨rfl, _, C2, fun q hq => upF_ne _ _ (by omega), g2⟩) (Nat.le_of_ble_eq_true rfl) (Nat.le_of_ble_eq_true rfl)
set_option maxHeartbeats 32000000 in
theorem s6_plaSound (h : AH) (Y : LYO B Q) (C : CLS B Q P ox kn h F d r) {j : Nat} (hj : j < 6) {nj : List Nat} (tj : TN (F j) nj) (wj : TW nj) (lj : nj.length ≤ 16) : CT la D cA B0 pa yX6_isPlainSound cX6_isPlainSound 2 (some .boolean) (rmD 5 0 0) [.ref ox, .ref (B j)] h (fun v h' => v = some (.int (bI true)) ∧ ∃ F', CLS B Q P ox kn h' F' d r ∧ (∀ q, q < 30 → F' q = F q) ∧ FrC h h') := by
  refine CT_of (by decide +kernel) (Nat.le_of_ble_eq_true rfl) ?_
  intro p e s m args below meth c X E hr hlk hnm
  have dk : ∀ {pc : Nat} {q : Instr × Nat}, lkd DX6_isPlainSound pc = some q → decode cX6_isPlainSound pc = .ok q := lkd_ok DX6_isPlainSound_ok
  obtain ⟨q1, q2⟩ := plP_match wj
  obtain ⟨wp, lp⟩ := wj.pl8
  refine fst1_ok X (dk rfl) rfl ?_
  refine getf_ok X flX6_24 (dk rfl) C.2.1 rfl ?_
  refine fst1_ok X (dk rfl) rfl ?_
  refine callVT_ok (ci := 7) (T := TX5) (N := 3) (av := [.ref (B j)]) (r := []) X E (s5_becomePlainOf h Y C.1 (i := 30) (by omega) (j := j) (by omega) (by omega) tj (by rw [show rmI 30 = 16 from rfl]; exact lj)) lkX5_becomePlainOf mlX6_148 lmX5_becomePlainOf lpX5_becomePlainOf ⟨Nat.le_of_ble_eq_true rfl, Nat.le_of_ble_eq_true rfl⟩ ⟨Nat.le_of_ble_eq_true rfl, Nat.le_of_ble_eq_true rfl⟩ rfl (C.1 30 (by omega)).2.1 (Nat.le_of_ble_eq_true rfl) (dk rfl) (fun h2 S2 f2 => ?_)
  have C2 := C.tm Y S2 f2
  have oa2 := C2.2.2.1.2.2.2.1
  have t30 : TN (upF F 30 ((plP nj).map nI, false) 30) (plP nj) := by
    rw [upF_self]
    exact ⟨rfl, wp.2⟩
  have tj2 : TN (upF F 30 ((plP nj).map nI, false) j) nj := by
    rw [upF_ne _ _ (by omega)]
    exact tj
  refine fst1_ok X (dk rfl) rfl ?_
  refine getf_ok X flX6_38 (dk rfl) C2.2.1 rfl ?_
  iterate 2 refine fst1_ok X (dk rfl) rfl ?_
  refine getf_ok X flX6_24 (dk rfl) C2.2.1 rfl ?_
  refine callV_ok (ci := 2) (T := TX0) (N := 1) (av := [.ref (B j), .ref (B 30)]) (r := []) X E (s0_becomeMatch h2 Y C2.1 oa2 (fun n hn => by unfold rmI; rw [if_neg (by omega), if_neg (by omega), if_pos (by omega)]) (i1 := j) (by omega) tj2 (by omega) (i2 := 30) (by omega) t30 (by omega) wp (by rw [lp]; exact lj)) lkX0_becomeMatch mlX6_194 lmX0_becomeMatch lpX0_becomeMatch ⟨Nat.le_of_ble_eq_true rfl, Nat.le_of_ble_eq_true rfl⟩ ⟨Nat.le_of_ble_eq_true rfl, Nat.le_of_ble_eq_true rfl⟩ rfl oa2.2.choose_spec.1 (Nat.le_of_ble_eq_true rfl) (dk rfl) ?_
  rintro _ h3 ⟨rfl, f3, G3, S3, g3⟩
  have C3 := C2.tm Y S3 f3
  have oa3 := C3.2.2.1.2.2.2.1
  have t31 : TN (upK (upF F 30 ((plP nj).map nI, false)) 34 G3 8 30) (plP nj) := by
    rw [upK_out _ _ _ (by omega)]
    exact t30
  have tj3 : TN (upK (upF F 30 ((plP nj).map nI, false)) 34 G3 8 j) nj := by
    rw [upK_out _ _ _ (by omega)]
    exact tj2
  rw [q1]
  refine br_ok X (dk rfl) rfl (show ((20 : Nat) : Int) + 22 = ((42 : Nat) : Int) from rfl) (fun q => absurd q bI_t) (fun _ => ?_)
  refine fst1_ok X (dk rfl) rfl ?_
  refine getf_ok X flX6_38 (dk rfl) C3.2.1 rfl ?_
  refine fst1_ok X (dk rfl) rfl ?_
  refine getf_ok X flX6_24 (dk rfl) C3.2.1 rfl ?_
  refine fst1_ok X (dk rfl) rfl ?_
  refine callV_ok (ci := 2) (T := TX0) (N := 1) (av := [.ref (B 30), .ref (B j)]) (r := []) X E (s0_becomeMatch h3 Y C3.1 oa3 (fun n hn => by unfold rmI; rw [if_neg (by omega), if_neg (by omega), if_pos (by omega)]) (i1 := 30) (by omega) t31 (by omega) (i2 := j) (by omega) tj3 (by omega) wj lj) lkX0_becomeMatch mlX6_194 lmX0_becomeMatch lpX0_becomeMatch ⟨Nat.le_of_ble_eq_true rfl, Nat.le_of_ble_eq_true rfl⟩ ⟨Nat.le_of_ble_eq_true rfl, Nat.le_of_ble_eq_true rfl⟩ rfl oa3.2.choose_spec.1 (Nat.le_of_ble_eq_true rfl) (dk rfl) ?_
  rintro _ h4 ⟨rfl, f4, G4, S4, g4⟩
  have C4 := C3.tm Y S4 f4
  rw [q2]
  refine br_ok X (dk rfl) rfl (show ((35 : Nat) : Int) + 7 = ((42 : Nat) : Int) from rfl) (fun q => absurd q bI_t) (fun _ => ?_)
  refine fst1_ok X (dk rfl) rfl ?_
  refine br_ok X (dk rfl) rfl (show ((39 : Nat) : Int) + 4 = ((43 : Nat) : Int) from rfl) (fun _ => ?_) (fun q => absurd trivial q)
  exact reti_ok X hr hlk (bI_n true) (dk rfl) (⟨rfl, _, C4, fun q hq => by rw [upK_out _ _ _ (by omega), upK_out _ _ _ (by omega), upF_ne _ _ (by omega)], ((f2.frC C.1).trans (f3.frC C2.1)).trans (f4.frC C3.1)⟩) (Nat.le_of_ble_eq_true rfl) (Nat.le_of_ble_eq_true rfl)
set_option maxHeartbeats 16000000 in
theorem s6_sizSound (h : AH) {st : ST} (C : CLS B Q P ox kn h F d r) (H : FS F st) (O : StO st) : CT la D cA B0 pa yX6_areSizesSound cX6_areSizesSound 5 (some .boolean) (rmD 5 0 0) [.ref ox] h (RP (.int (bI true)) h) := by
  refine CT_of (by decide +kernel) (Nat.le_of_ble_eq_true rfl) ?_
  intro p e s m args below meth c X E hr hlk hnm
  have dk : ∀ {pc : Nat} {q : Instr × Nat}, lkd DX6_areSizesSound pc = some q → decode cX6_areSizesSound pc = .ok q := lkd_ok DX6_areSizesSound_ok
  have loop : ∀ (d k : Nat), d = 6 - k → k ≤ 6 → ∀ l : List (Nat × Value), lsel l [3, 2, 1] = [(3, vI k), (2, vI 6), (1, .ref (P 0))] → WR p la e (rmD 5 0 0) s m args below meth c D cA B0 5 (RP (.int (bI true)) h) 10 l [] h 0 0 := by
    intro d
    induction d with
    | zero =>
      intro k hd hk l hl
      have hk2 : k = 6 := by omega
      subst hk2
      refine WS.sel [3, 2, 1] hl ?_
      iterate 2 refine fst1_ok X (dk rfl) rfl ?_
      refine br_ok X (dk rfl) rfl (show ((12 : Nat) : Int) + 39 = ((51 : Nat) : Int) from rfl) (fun _ => ?_) (fun q => absurd (Int32.le_refl _) q)
      refine fst1_ok X (dk rfl) rfl ?_
      exact reti_ok X hr hlk (bI_n true) (dk rfl) (⟨rfl, rfl⟩) (Nat.le_of_ble_eq_true rfl) (Nat.le_of_ble_eq_true rfl)
    | succ d ih =>
      intro k hd hk l hl
      obtain ⟨n1, sj, ej, tj, wj, lj⟩ := H.slot O (j := k) (by omega)
      have f3 : Value.int (nI k + Int32.ofInt 1) = vI (k + 1) := congrArg Value.int (by rw [nI_1', nI_add])
      have gx := wj.gx (by omega)
      have sl := shN_le n1
      refine WS.sel [3, 2, 1] hl ?_
      iterate 2 refine fst1_ok X (dk rfl) rfl ?_
      refine br_ok X (dk rfl) rfl (show ((12 : Nat) : Int) + 39 = ((51 : Nat) : Int) from rfl) (fun q => absurd q (nI_ge (a := k) (b := 6) (by omega) (by omega))) (fun _ => ?_)
      iterate 2 refine fst1_ok X (dk rfl) rfl ?_
      refine aldr_ok X (Or.inl rfl) (dk rfl) C.2.2.1.1 (by omega) (rgB_get B 0 (k := k) (by omega)) ?_
      rw [Nat.zero_add]
      iterate 2 refine fst1_ok X (dk rfl) rfl ?_
      refine callVR_ok (ci := 7) (T := TX5) (N := 3) (av := []) (r := []) X E (s5_length h C.1 (i := k) (by omega)) lkX5_length mlX6_76 lmX5_length lpX5_length ⟨Nat.le_of_ble_eq_true rfl, Nat.le_of_ble_eq_true rfl⟩ ⟨Nat.le_of_ble_eq_true rfl, Nat.le_of_ble_eq_true rfl⟩ rfl ⟨_, (C.1 k (by omega)).2.1⟩ (Nat.le_of_ble_eq_true rfl) (dk rfl) ?_
      rintro _ rfl
      rw [tj.len]
      refine fst1_ok X (dk rfl) rfl ?_
      refine br_ok X (dk rfl) rfl (show ((27 : Nat) : Int) + 16 = ((43 : Nat) : Int) from rfl) (fun q => absurd ((nI_leI (by omega) (by omega)).mpr lj) (by rw [← nI_16]; exact Int32.not_le.mpr q)) (fun _ => ?_)
      refine fst1_ok X (dk rfl) rfl ?_
      refine callVR_ok (ci := 7) (T := TX5) (N := 3) (av := []) (r := []) X E (s5_unlikePlaces h C.1 (i := k) (by omega) gx tj) lkX5_unlikePlaces mlX6_204 lmX5_unlikePlaces lpX5_unlikePlaces ⟨Nat.le_of_ble_eq_true rfl, Nat.le_of_ble_eq_true rfl⟩ ⟨Nat.le_of_ble_eq_true rfl, Nat.le_of_ble_eq_true rfl⟩ rfl ⟨_, (C.1 k (by omega)).2.1⟩ (Nat.le_of_ble_eq_true rfl) (dk rfl) ?_
      rintro _ rfl
      refine fst1_ok X (dk rfl) rfl ?_
      refine callVR_ok (ci := 7) (T := TX5) (N := 3) (av := []) (r := [vI (shN n1)]) X E (s5_length h C.1 (i := k) (by omega)) lkX5_length mlX6_76 lmX5_length lpX5_length ⟨Nat.le_of_ble_eq_true rfl, Nat.le_of_ble_eq_true rfl⟩ ⟨Nat.le_of_ble_eq_true rfl, Nat.le_of_ble_eq_true rfl⟩ rfl ⟨_, (C.1 k (by omega)).2.1⟩ (Nat.le_of_ble_eq_true rfl) (dk rfl) ?_
      rintro _ rfl
      rw [tj.len]
      refine br_ok X (dk rfl) rfl (show ((40 : Nat) : Int) + 5 = ((45 : Nat) : Int) from rfl) (fun _ => ?_) (fun q => absurd ((nI_leI (by omega) (by omega)).mpr sl) q)
      refine fst1_ok X (dk rfl) rfl ?_
      refine br_ok X (dk rfl) rfl (show ((48 : Nat) : Int) + (-38) = ((10 : Nat) : Int) from rfl) (fun _ => ?_) (fun q => absurd trivial q)
      refine WS.sel (l' := [(3, vI (k + 1)), (2, vI 6), (1, .ref (P 0))]) [3, 2, 1] (by rw [← f3]; rfl) ?_
      exact ih (k + 1) (by omega) (by omega) _ rfl
  refine fst1_ok X (dk rfl) rfl ?_
  refine getf_ok X flX6_11 (dk rfl) C.2.1 rfl ?_
  iterate 2 refine fst1_ok X (dk rfl) rfl ?_
  refine alen_ok X (by decide) (dk rfl) C.2.2.1.1 ?_
  rw [show ((rgB B 0 6).map Value.ref).length = 6 by simp [rgB]]
  iterate 3 refine fst1_ok X (dk rfl) rfl ?_
  exact loop 6 0 rfl (Nat.zero_le _) _ rfl
set_option maxHeartbeats 64000000 in
theorem s6_isSound (h : AH) (Y : LYO B Q) {st : ST} (C0 : StC B Q P ox kn h st) : CT la D cA B0 pa yX6_isSound cX6_isSound 5 (some .boolean) (rmD 8 0 0) [.ref ox] h (fun v h' => v = some (.int (bI true)) ∧ StC B Q P ox kn h' st ∧ FrC h h') := by
  refine CT_of (by decide +kernel) (Nat.le_of_ble_eq_true rfl) ?_
  intro p e s m args below meth c X E hr hlk hnm
  have dk : ∀ {pc : Nat} {q : Instr × Nat}, lkd DX6_isSound pc = some q → decode cX6_isSound pc = .ok q := lkd_ok DX6_isSound_ok
  obtain ⟨F, C, H, O⟩ := id C0
  obtain ⟨nj, sj, ej, tj, wj, lj⟩ := H.slot O (j := 0) (by decide)
  obtain ⟨ni, si, ei, ti, wi, li⟩ := H.slot O (j := 1) (by decide)
  have t1 : TW nj ∧ nj.length ≤ 16 := ⟨wj, lj⟩
  have t2 : TW ni ∧ ni.length ≤ 16 := ⟨wi, li⟩
  obtain ⟨bY, -, -⟩ := BY_of t1 t2
  obtain ⟨Gs, Sx, q1, q2, q3, q4, q5, q6, q7⟩ := runM_ok t1 t2
  have hsb := stepsB t1 t2 q1 q3 q4 q6 q7 (x := 0) rfl
  refine fst1_ok X (dk rfl) rfl ?_
  refine getf_ok X flX6_11 (dk rfl) C.2.1 rfl ?_
  refine fst1_ok X (dk rfl) rfl ?_
  refine aldr_ok X (Or.inl rfl) (dk rfl) C.2.2.1.1 (by decide) (rgB_get B 0 (n := 6) (k := 0) (by decide)) ?_
  rw [Nat.zero_add]
  iterate 2 refine fst1_ok X (dk rfl) rfl ?_
  refine getf_ok X flX6_11 (dk rfl) C.2.1 rfl ?_
  refine fst1_ok X (dk rfl) rfl ?_
  refine aldr_ok X (Or.inl rfl) (dk rfl) C.2.2.1.1 (by decide) (rgB_get B 0 (n := 6) (k := 1) (by decide)) ?_
  rw [Nat.zero_add]
  iterate 2 refine fst1_ok X (dk rfl) rfl ?_
  refine getf_ok X flX6_48 (dk rfl) C.2.1 rfl ?_
  iterate 2 refine fst1_ok X (dk rfl) rfl ?_
  refine callV_ok (ci := 6) (T := TX4) (N := 5) (av := [.ref (B 0), .ref (B 1)]) (r := []) X E (s4_makeAlike _ Y C (i1 := 0) (by omega) (by omega) (i2 := 1) (by omega) (by omega) tj ti t1 t2 q7 q5 q2.1) lkX4_makeAlike mlX6_185 lmX4_makeAlike lpX4_makeAlike ⟨Nat.le_of_ble_eq_true rfl, Nat.le_of_ble_eq_true rfl⟩ ⟨Nat.le_of_ble_eq_true rfl, Nat.le_of_ble_eq_true rfl⟩ rfl C.2.2.2.1.choose_spec.choose_spec (Nat.le_of_ble_eq_true rfl) (dk rfl) ?_
  rintro _ h2 ⟨rfl, f2, F2, ps, C2, eF, T2⟩
  have tj2 : TN (F2 0) nj := by rw [eF 0 (by decide)]; exact tj
  have ti2 : TN (F2 1) ni := by rw [eF 1 (by decide)]; exact ti
  iterate 2 refine fst1_ok X (dk rfl) rfl ?_
  refine getf_ok X flX6_55 (dk rfl) C2.2.1 rfl ?_
  iterate 2 refine fst1_ok X (dk rfl) rfl ?_
  refine callV_ok (ci := 3) (T := TX1) (N := 5) (av := [.ref (B 0), .ref (B 1)]) (r := []) X E (s1_makeAlikeU h2 Y C2 (i1 := 0) (by omega) (by omega) (i2 := 1) (by omega) (by omega) tj2 ti2 t1 t2) lkX1_makeAlike mlX6_189 lmX1_makeAlike lpX1_makeAlike ⟨Nat.le_of_ble_eq_true rfl, Nat.le_of_ble_eq_true rfl⟩ ⟨Nat.le_of_ble_eq_true rfl, Nat.le_of_ble_eq_true rfl⟩ rfl C2.2.2.2.2.1 (Nat.le_of_ble_eq_true rfl) (dk rfl) ?_
  rintro _ h3 ⟨fu3, b, rfl, hb, f3, F3, C3, eF3, T3⟩
  have hcb := classesB t1 t2 hb (x := 1) (by decide)
  have ebb : decide (Gs.2.2.1 = 0) = b := Bool.eq_iff_iff.mpr (hsb.trans (Iff.trans (by
    unfold PEx
    simp only [if_pos rfl, if_neg (show ¬ (1 : Int32) = 0 by decide)]
    exact canB_same t1 t2) hcb.symm))
  have tj3 : TN (F3 0) nj := by rw [eF3 0 (by decide)]; exact tj2
  have ti3 : TN (F3 1) ni := by rw [eF3 1 (by decide)]; exact ti2
  have H3 : FS F3 st := (H.cg (fun n hn => eF n (by omega))).cg (fun n hn => eF3 n (by omega))
  rw [ebb]
  have rest : ∀ (hh : AH) (F4 : Nat → TC), CLS B Q P ox kn hh F4 st.2.2.1 st.2.2.2 → (∀ q, q < 30 → F4 q = F3 q) → FrC h hh → ∀ l : List (Nat × Value), lsel l [2, 1, 0] = [(2, .ref (B 1)), (1, .ref (B 0)), (0, .ref ox)] → WR p la e (rmD 8 0 0) s m args below meth c D cA B0 5 (fun v h' => v = some (.int (bI true)) ∧ StC B Q P ox kn h' st ∧ FrC h h') 85 l [] hh 0 0 := by
    intro hh F4 C4 eF4 fr l hl
    have tj4 : TN (F4 0) nj := by rw [eF4 0 (by decide)]; exact tj3
    have ti4 : TN (F4 1) ni := by rw [eF4 1 (by decide)]; exact ti3
    refine WS.sel [2, 1, 0] hl ?_
    iterate 3 refine fst1_ok X (dk rfl) rfl ?_
    refine callV_ok (ci := 8) (T := TX6) (N := 14) (av := [.ref (B 0), .ref (B 1)]) (r := []) X E (s6_comSound hh Y C4 (j := 0) (by decide) tj4 wj lj (i := 1) (by decide) ti4 wi li) lkX6_isCommonSound mlX6_260 lmX6_isCommonSound lpX6_isCommonSound ⟨Nat.le_of_ble_eq_true rfl, Nat.le_of_ble_eq_true rfl⟩ ⟨Nat.le_of_ble_eq_true rfl, Nat.le_of_ble_eq_true rfl⟩ rfl C4.2.1 (Nat.le_of_ble_eq_true rfl) (dk rfl) ?_
    rintro _ h5 ⟨rfl, F5, C5, eF5, f5⟩
    refine br_ok X (dk rfl) rfl (show ((91 : Nat) : Int) + 22 = ((113 : Nat) : Int) from rfl) (fun q => absurd q bI_t) (fun _ => ?_)
    iterate 2 refine fst1_ok X (dk rfl) rfl ?_
    have tj5 : TN (F5 0) nj := by rw [eF5 0 (by decide)]; exact tj4
    refine callV_ok (ci := 8) (T := TX6) (N := 14) (av := [.ref (B 0)]) (r := []) X E (s6_plaSound h5 Y C5 (j := 0) (by decide) tj5 wj lj) lkX6_isPlainSound mlX6_263 lmX6_isPlainSound lpX6_isPlainSound ⟨Nat.le_of_ble_eq_true rfl, Nat.le_of_ble_eq_true rfl⟩ ⟨Nat.le_of_ble_eq_true rfl, Nat.le_of_ble_eq_true rfl⟩ rfl C5.2.1 (Nat.le_of_ble_eq_true rfl) (dk rfl) ?_
    rintro _ h6 ⟨rfl, F6, C6, eF6, f6⟩
    refine br_ok X (dk rfl) rfl (show ((99 : Nat) : Int) + 14 = ((113 : Nat) : Int) from rfl) (fun q => absurd q bI_t) (fun _ => ?_)
    refine fst1_ok X (dk rfl) rfl ?_
    have H6 : FS F6 st := ((H3.cg (fun n hn => eF4 n (by omega))).cg (fun n hn => eF5 n (by omega))).cg (fun n hn => eF6 n (by omega))
    refine callVR_ok (ci := 8) (T := TX6) (N := 14) (av := []) (r := []) X E (s6_sizSound h6 C6 H6 O) lkX6_areSizesSound mlX6_266 lmX6_areSizesSound lpX6_areSizesSound ⟨Nat.le_of_ble_eq_true rfl, Nat.le_of_ble_eq_true rfl⟩ ⟨Nat.le_of_ble_eq_true rfl, Nat.le_of_ble_eq_true rfl⟩ rfl ⟨_, C6.2.1⟩ (Nat.le_of_ble_eq_true rfl) (dk rfl) ?_
    rintro _ rfl
    refine br_ok X (dk rfl) rfl (show ((106 : Nat) : Int) + 7 = ((113 : Nat) : Int) from rfl) (fun q => absurd q bI_t) (fun _ => ?_)
    refine fst1_ok X (dk rfl) rfl ?_
    refine br_ok X (dk rfl) rfl (show ((110 : Nat) : Int) + 4 = ((114 : Nat) : Int) from rfl) (fun _ => ?_) (fun q => absurd trivial q)
    exact reti_ok X hr hlk (bI_n true) (dk rfl) (⟨rfl, ⟨F6, C6, H6, O⟩, (fr.trans f5).trans f6⟩) (Nat.le_of_ble_eq_true rfl) (Nat.le_of_ble_eq_true rfl)
  iterate 2 refine fst1_ok X (dk rfl) rfl ?_
  cases b with
  | false =>
    refine br_ok X (dk rfl) rfl (show ((36 : Nat) : Int) + 30 = ((66 : Nat) : Int) from rfl) (fun _ => ?_) (fun q => absurd bI_f' q)
    iterate 2 refine fst1_ok X (dk rfl) rfl ?_
    refine br_ok X (dk rfl) rfl (show ((69 : Nat) : Int) + 44 = ((113 : Nat) : Int) from rfl) (fun q => absurd rfl q) (fun _ => ?_)
    refine fst1_ok X (dk rfl) rfl ?_
    refine br_ok X (dk rfl) rfl (show ((73 : Nat) : Int) + 12 = ((85 : Nat) : Int) from rfl) (fun _ => ?_) (fun q => absurd bI_f' q)
    exact rest h3 F3 C3 (fun q hq => rfl) (f2.trans f3) _ rfl
  | true =>
    obtain ⟨k9, hd, f3', ps3, T4, HD, GD, AK, MK⟩ := T3 rfl
    have hw : Gs.2.2.1 = 0 := of_decide_eq_true ebb
    have ac := q6 hw
    obtain ⟨E1, hE1⟩ := ExP.ex bY.1 q3 ac
    have pe1 : PEs nj ni E1 := ⟨Gs, Sx, q1, hw, by rw [hw] at q7; exact q7, q3, ac, q4, hE1⟩
    refine br_ok X (dk rfl) rfl (show ((36 : Nat) : Int) + 30 = ((66 : Nat) : Int) from rfl) (fun q => absurd q bI_t) (fun _ => ?_)
    refine fst1_ok X (dk rfl) rfl ?_
    refine br_ok X (dk rfl) rfl (show ((41 : Nat) : Int) + 25 = ((66 : Nat) : Int) from rfl) (fun q => absurd q bI_t) (fun _ => ?_)
    refine fst1_ok X (dk rfl) rfl ?_
    refine getf_ok X flX6_48 (dk rfl) C3.2.1 rfl ?_
    refine fst1_ok X (dk rfl) rfl ?_
    refine getf_ok X flX6_38 (dk rfl) C3.2.1 rfl ?_
    have T2b := STP.cl Y C2 T2 fu3 C3.1 (eF3 50 (by decide))
    have oa := C3.2.2.1.2.2.2.1
    refine callV_ok (ci := 6) (T := TX4) (N := 5) (av := [.ref (P 2)]) (r := []) X E (s4_tellInto h3 Y T2b (oo := P 2) (f := 34) oa (fun n hn => by unfold rmI; rw [if_neg (by omega), if_neg (by omega), if_pos (by omega)]) bY.1 q3 ac hE1) lkX4_tellInto mlX6_190 lmX4_tellInto lpX4_tellInto ⟨Nat.le_of_ble_eq_true rfl, Nat.le_of_ble_eq_true rfl⟩ ⟨Nat.le_of_ble_eq_true rfl, Nat.le_of_ble_eq_true rfl⟩ rfl T2b.2.2.1 (Nat.le_of_ble_eq_true rfl) (dk rfl) ?_
    rintro _ h4 ⟨rfl, f4, G4, S4, g4⟩
    have C4 := C3.tm Y S4 f4
    have T5 := CTG.tm Y T4 S4 (upK_out _ _ _ (by decide)) f4
    have ob := C4.2.2.1.2.2.2.2
    refine fst1_ok X (dk rfl) rfl ?_
    refine getf_ok X flX6_55 (dk rfl) C4.2.1 rfl ?_
    refine fst1_ok X (dk rfl) rfl ?_
    refine getf_ok X flX6_42 (dk rfl) C4.2.1 rfl ?_
    refine callV_ok (ci := 3) (T := TX1) (N := 5) (av := [.ref (P 3)]) (r := []) X E (s1_tellInto h4 Y T5 bY HD GD AK (oo := P 3) (f := 42) ob (fun n hn => by unfold rmI; rw [if_neg (by omega), if_neg (by omega), if_pos (by omega)])) lkX1_tellInto mlX6_193 lmX1_tellInto lpX1_tellInto ⟨Nat.le_of_ble_eq_true rfl, Nat.le_of_ble_eq_true rfl⟩ ⟨Nat.le_of_ble_eq_true rfl, Nat.le_of_ble_eq_true rfl⟩ rfl T5.2.2.1 (Nat.le_of_ble_eq_true rfl) (dk rfl) ?_
    rintro _ h5 ⟨rfl, f5, S9, E2, G5, f6, sk, hE2, T6, g5⟩
    have C5 := C4.cl Y T6 f5
    have pe2 : PEc nj ni E2 := ⟨k9, S9, MK, AK, sk, hE2⟩
    have eE := pe1.same t1 t2 pe2
    have u1 := pe1.uni t1 t2
    have m1 : MDR (upK (upK F3 34 G4 8) 42 G5 8) 34 ((List.range 8).map E1) := ⟨by rw [List.length_map, List.length_range], fun n hn => ⟨E1 n, by rw [List.getElem?_map, List.getElem?_range hn]; rfl, by rw [upK_out _ _ _ (by omega), upK_in F3 34 G4 hn]; exact g4 n hn, u1.1 n hn⟩⟩
    have m2 : MDR (upK (upK F3 34 G4 8) 42 G5 8) 42 ((List.range 8).map E1) := ⟨by rw [List.length_map, List.length_range], fun n hn => ⟨E1 n, by rw [List.getElem?_map, List.getElem?_range hn]; rfl, by rw [upK_in _ 42 G5 hn, eE n hn]; exact g5 n hn, u1.1 n hn⟩⟩
    have ek : ∀ q, q < 30 → upK (upK F3 34 G4 8) 42 G5 8 q = F3 q := fun q hq => by rw [upK_out _ _ _ (by omega), upK_out _ _ _ (by omega)]
    have tj6 : TN (upK (upK F3 34 G4 8) 42 G5 8 0) nj := by rw [ek 0 (by decide)]; exact tj3
    have ti6 : TN (upK (upK F3 34 G4 8) 42 G5 8 1) ni := by rw [ek 1 (by decide)]; exact ti3
    have fr5 : FrC h h5 := ((f2.trans f3).trans (f4.frC C3.1)).trans (f5.frC C4.1 C4.2.2.2.lcl)
    iterate 2 refine fst1_ok X (dk rfl) rfl ?_
    refine br_ok X (dk rfl) rfl (show ((69 : Nat) : Int) + 44 = ((113 : Nat) : Int) from rfl) (fun q => absurd rfl q) (fun _ => ?_)
    refine fst1_ok X (dk rfl) rfl ?_
    refine br_ok X (dk rfl) rfl (show ((73 : Nat) : Int) + 12 = ((85 : Nat) : Int) from rfl) (fun q => absurd q bI_t) (fun _ => ?_)
    iterate 3 refine fst1_ok X (dk rfl) rfl ?_
    refine callV_ok (ci := 8) (T := TX6) (N := 14) (av := [.ref (B 0), .ref (B 1)]) (r := []) X E (s6_ansSound h5 Y C5 (j := 0) (by decide) tj6 wj lj (i := 1) (by decide) ti6 wi li m1 m2 (fun _ => by rw [← exF_used E1 wj.2, ← exF_used E1 wi.2]; exact u1.2)) lkX6_areAnswersSound mlX6_257 lmX6_areAnswersSound lpX6_areAnswersSound ⟨Nat.le_of_ble_eq_true rfl, Nat.le_of_ble_eq_true rfl⟩ ⟨Nat.le_of_ble_eq_true rfl, Nat.le_of_ble_eq_true rfl⟩ rfl C5.2.1 (Nat.le_of_ble_eq_true rfl) (dk rfl) ?_
    rintro _ h6 ⟨rfl, F6, C6, eF6, f6b⟩
    refine br_ok X (dk rfl) rfl (show ((82 : Nat) : Int) + 31 = ((113 : Nat) : Int) from rfl) (fun q => absurd q bI_t) (fun _ => ?_)
    exact rest h6 F6 C6 (fun q hq => (eF6 q hq).trans (ek q hq)) (fr5.trans f6b) _ rfl
end Q32
end Uf32q7
section Uf33r7
/-! the reference's isSound, exactly (printed by wip/q/genR7.py) -/
section R33
variable {la : Launch} {D : va_G} {cA : Nat → ClassId} {B0 pa : Nat} {o S A : Nat} {sl : List (List Nat)} {an : List (List (List Nat))} {da dr kn th : Int32}
theorem RF.x_isSound (h : AH) (M : MD h o S A sl an da dr kn th) : CT la D cA B0 pa yX10_isSound cX10_isSound 1 (some .boolean) (rmD 0 0 0) [.ref o] h (fun v h' => v = some (.int (bI true)) ∧ RF.MI o S A sl an da dr kn h h') := by
  refine CT_of (by decide +kernel) (Nat.le_of_ble_eq_true rfl) ?_
  intro p e s m args below meth c X E hr hlk hnm
  have dk : ∀ {pc : Nat} {q : Instr × Nat}, lkd DX10_isSound pc = some q → decode cX10_isSound pc = .ok q := lkd_ok DX10_isSound_ok
  repeat refine fst1_ok X (dk rfl) rfl ?_
  refine putf_ok X flX10_28 ftX10_5 (Or.inl rfl) rfl rfl (dk rfl) M.obj (Nat.le_of_ble_eq_true rfl) ?_
  repeat refine fst1_ok X (dk rfl) rfl ?_
  exact reti_ok X hr hlk (bI_n true) (dk rfl) ⟨rfl, ⟨_, M.fld da dr kn (Int32.ofInt 0)⟩, (Fr.rf h).set (Or.inl rfl) _⟩ (Nat.le_refl _) (Nat.le_refl _)
end R33
end Uf33r7
section Ug01codeL
/-! the code of the law (printed by wip/p40/genL1.py) -/
def DL_name : List (Nat × Instr × Nat) := [(0, .aload_n 3, 1), (1, .aload_n 0, 1), (2, .iload_n 1, 1), (3, .iload_n 2, 1), (4, .invokevirtual 7, 3), (7, .i2l, 1), (8, .putfield 13, 3), (11, .goto 11, 3), (14, .astore 4, 2), (16, .iconst 1, 1), (17, .ireturn, 1), (18, .astore 4, 2), (20, .iconst 2, 1), (21, .ireturn, 1), (22, .iconst 0, 1), (23, .ireturn, 1)]
set_option maxRecDepth 100000 in
theorem DL_name_ok : ∀ q ∈ DL_name, decode cL_name q.1 = .ok q.2 := ck_ok (by decide +kernel)
def DL_head : List (Nat × Instr × Nat) := [(0, .aload 6, 2), (2, .aload_n 0, 1), (3, .iload_n 1, 1), (4, .iload_n 2, 1), (5, .iload_n 3, 1), (6, .iload 4, 2), (8, .iload 5, 2), (10, .invokevirtual 23, 3), (13, .i2l, 1), (14, .putfield 13, 3), (17, .goto 11, 3), (20, .astore 7, 2), (22, .iconst 1, 1), (23, .ireturn, 1), (24, .astore 7, 2), (26, .iconst 2, 1), (27, .ireturn, 1), (28, .iconst 0, 1), (29, .ireturn, 1)]
set_option maxRecDepth 100000 in
theorem DL_head_ok : ∀ q ∈ DL_head, decode cL_head q.1 = .ok q.2 := ck_ok (by decide +kernel)
def DL_copy : List (Nat × Instr × Nat) := [(0, .aload_n 3, 1), (1, .aload_n 0, 1), (2, .iload_n 1, 1), (3, .iload_n 2, 1), (4, .invokevirtual 27, 3), (7, .i2l, 1), (8, .putfield 13, 3), (11, .goto 7, 3), (14, .astore 4, 2), (16, .iconst 1, 1), (17, .ireturn, 1), (18, .iconst 0, 1), (19, .ireturn, 1)]
set_option maxRecDepth 100000 in
theorem DL_copy_ok : ∀ q ∈ DL_copy, decode cL_copy q.1 = .ok q.2 := ck_ok (by decide +kernel)
def DL_swap : List (Nat × Instr × Nat) := [(0, .aload_n 3, 1), (1, .aload_n 0, 1), (2, .iload_n 1, 1), (3, .iload_n 2, 1), (4, .invokevirtual 30, 3), (7, .i2l, 1), (8, .putfield 13, 3), (11, .goto 7, 3), (14, .astore 4, 2), (16, .iconst 1, 1), (17, .ireturn, 1), (18, .iconst 0, 1), (19, .ireturn, 1)]
set_option maxRecDepth 100000 in
theorem DL_swap_ok : ∀ q ∈ DL_swap, decode cL_swap q.1 = .ok q.2 := ck_ok (by decide +kernel)
def DL_part : List (Nat × Instr × Nat) := [(0, .aload 4, 2), (2, .aload_n 0, 1), (3, .iload_n 1, 1), (4, .iload_n 2, 1), (5, .iload_n 3, 1), (6, .invokevirtual 33, 3), (9, .i2l, 1), (10, .putfield 13, 3), (13, .goto 7, 3), (16, .astore 5, 2), (18, .iconst 1, 1), (19, .ireturn, 1), (20, .iconst 0, 1), (21, .ireturn, 1)]
set_option maxRecDepth 100000 in
theorem DL_part_ok : ∀ q ∈ DL_part, decode cL_part q.1 = .ok q.2 := ck_ok (by decide +kernel)
def DL_graft : List (Nat × Instr × Nat) := [(0, .aload 4, 2), (2, .aload_n 0, 1), (3, .iload_n 1, 1), (4, .iload_n 2, 1), (5, .iload_n 3, 1), (6, .invokevirtual 37, 3), (9, .i2l, 1), (10, .putfield 13, 3), (13, .goto 7, 3), (16, .astore 5, 2), (18, .iconst 1, 1), (19, .ireturn, 1), (20, .iconst 0, 1), (21, .ireturn, 1)]
set_option maxRecDepth 100000 in
theorem DL_graft_ok : ∀ q ∈ DL_graft, decode cL_graft q.1 = .ok q.2 := ck_ok (by decide +kernel)
def DL_put : List (Nat × Instr × Nat) := [(0, .aload 4, 2), (2, .aload_n 0, 1), (3, .iload_n 1, 1), (4, .iload_n 2, 1), (5, .iload_n 3, 1), (6, .invokevirtual 40, 3), (9, .i2l, 1), (10, .putfield 13, 3), (13, .goto 11, 3), (16, .astore 5, 2), (18, .iconst 1, 1), (19, .ireturn, 1), (20, .astore 5, 2), (22, .iconst 2, 1), (23, .ireturn, 1), (24, .iconst 0, 1), (25, .ireturn, 1)]
set_option maxRecDepth 100000 in
theorem DL_put_ok : ∀ q ∈ DL_put, decode cL_put q.1 = .ok q.2 := ck_ok (by decide +kernel)
def DL_shift : List (Nat × Instr × Nat) := [(0, .aload_n 3, 1), (1, .aload_n 0, 1), (2, .iload_n 1, 1), (3, .iload_n 2, 1), (4, .invokevirtual 43, 3), (7, .i2l, 1), (8, .putfield 13, 3), (11, .goto 11, 3), (14, .astore 4, 2), (16, .iconst 1, 1), (17, .ireturn, 1), (18, .astore 4, 2), (20, .iconst 2, 1), (21, .ireturn, 1), (22, .iconst 0, 1), (23, .ireturn, 1)]
set_option maxRecDepth 100000 in
theorem DL_shift_ok : ∀ q ∈ DL_shift, decode cL_shift q.1 = .ok q.2 := ck_ok (by decide +kernel)
def DL_plain : List (Nat × Instr × Nat) := [(0, .aload_n 2, 1), (1, .aload_n 0, 1), (2, .iload_n 1, 1), (3, .invokevirtual 46, 3), (6, .i2l, 1), (7, .putfield 13, 3), (10, .goto 6, 3), (13, .astore_n 3, 1), (14, .iconst 1, 1), (15, .ireturn, 1), (16, .iconst 0, 1), (17, .ireturn, 1)]
set_option maxRecDepth 100000 in
theorem DL_plain_ok : ∀ q ∈ DL_plain, decode cL_plain q.1 = .ok q.2 := ck_ok (by decide +kernel)
def DL_use : List (Nat × Instr × Nat) := [(0, .aload 4, 2), (2, .aload_n 0, 1), (3, .iload_n 1, 1), (4, .iload_n 2, 1), (5, .iload_n 3, 1), (6, .invokevirtual 50, 3), (9, .i2l, 1), (10, .putfield 13, 3), (13, .goto 7, 3), (16, .astore 5, 2), (18, .iconst 1, 1), (19, .ireturn, 1), (20, .iconst 0, 1), (21, .ireturn, 1)]
set_option maxRecDepth 100000 in
theorem DL_use_ok : ∀ q ∈ DL_use, decode cL_use q.1 = .ok q.2 := ck_ok (by decide +kernel)
def DL_common : List (Nat × Instr × Nat) := [(0, .aload 4, 2), (2, .aload_n 0, 1), (3, .iload_n 1, 1), (4, .iload_n 2, 1), (5, .iload_n 3, 1), (6, .invokevirtual 53, 3), (9, .i2l, 1), (10, .putfield 13, 3), (13, .goto 7, 3), (16, .astore 5, 2), (18, .iconst 1, 1), (19, .ireturn, 1), (20, .iconst 0, 1), (21, .ireturn, 1)]
set_option maxRecDepth 100000 in
theorem DL_common_ok : ∀ q ∈ DL_common, decode cL_common q.1 = .ok q.2 := ck_ok (by decide +kernel)
def DL_forget : List (Nat × Instr × Nat) := [(0, .aload_n 2, 1), (1, .aload_n 0, 1), (2, .iload_n 1, 1), (3, .invokevirtual 56, 3), (6, .i2l, 1), (7, .putfield 13, 3), (10, .goto 6, 3), (13, .astore_n 3, 1), (14, .iconst 1, 1), (15, .ireturn, 1), (16, .iconst 0, 1), (17, .ireturn, 1)]
set_option maxRecDepth 100000 in
theorem DL_forget_ok : ∀ q ∈ DL_forget, decode cL_forget q.1 = .ok q.2 := ck_ok (by decide +kernel)
def DL_tell : List (Nat × Instr × Nat) := [(0, .aload 4, 2), (2, .aload_n 0, 1), (3, .iload_n 1, 1), (4, .iload_n 2, 1), (5, .iload_n 3, 1), (6, .invokevirtual 59, 3), (9, .i2l, 1), (10, .putfield 13, 3), (13, .goto 11, 3), (16, .astore 5, 2), (18, .iconst 1, 1), (19, .ireturn, 1), (20, .astore 5, 2), (22, .iconst 2, 1), (23, .ireturn, 1), (24, .iconst 0, 1), (25, .ireturn, 1)]
set_option maxRecDepth 100000 in
theorem DL_tell_ok : ∀ q ∈ DL_tell, decode cL_tell q.1 = .ok q.2 := ck_ok (by decide +kernel)
def DL_take : List (Nat × Instr × Nat) := [(0, .aload_n 3, 1), (1, .aload_n 0, 1), (2, .iload_n 1, 1), (3, .iload_n 2, 1), (4, .invokevirtual 62, 3), (7, .i2l, 1), (8, .putfield 13, 3), (11, .goto 7, 3), (14, .astore 4, 2), (16, .iconst 1, 1), (17, .ireturn, 1), (18, .iconst 0, 1), (19, .ireturn, 1)]
set_option maxRecDepth 100000 in
theorem DL_take_ok : ∀ q ∈ DL_take, decode cL_take q.1 = .ok q.2 := ck_ok (by decide +kernel)
def DL_behind : List (Nat × Instr × Nat) := [(0, .aload 4, 2), (2, .aload_n 0, 1), (3, .iload_n 1, 1), (4, .iload_n 2, 1), (5, .iload_n 3, 1), (6, .invokevirtual 65, 3), (9, .i2l, 1), (10, .putfield 13, 3), (13, .goto 7, 3), (16, .astore 5, 2), (18, .iconst 1, 1), (19, .ireturn, 1), (20, .iconst 0, 1), (21, .ireturn, 1)]
set_option maxRecDepth 100000 in
theorem DL_behind_ok : ∀ q ∈ DL_behind, decode cL_behind q.1 = .ok q.2 := ck_ok (by decide +kernel)
def DL_alike : List (Nat × Instr × Nat) := [(0, .aload 5, 2), (2, .aload_n 0, 1), (3, .iload_n 1, 1), (4, .iload_n 2, 1), (5, .iload_n 3, 1), (6, .iload 4, 2), (8, .invokevirtual 68, 3), (11, .i2l, 1), (12, .putfield 13, 3), (15, .goto 11, 3), (18, .astore 6, 2), (20, .iconst 1, 1), (21, .ireturn, 1), (22, .astore 6, 2), (24, .iconst 2, 1), (25, .ireturn, 1), (26, .iconst 0, 1), (27, .ireturn, 1)]
set_option maxRecDepth 100000 in
theorem DL_alike_ok : ∀ q ∈ DL_alike, decode cL_alike q.1 = .ok q.2 := ck_ok (by decide +kernel)
def DL_match : List (Nat × Instr × Nat) := [(0, .aload 4, 2), (2, .aload_n 0, 1), (3, .iload_n 1, 1), (4, .iload_n 2, 1), (5, .iload_n 3, 1), (6, .invokevirtual 72, 3), (9, .i2l, 1), (10, .putfield 13, 3), (13, .goto 7, 3), (16, .astore 5, 2), (18, .iconst 1, 1), (19, .ireturn, 1), (20, .iconst 0, 1), (21, .ireturn, 1)]
set_option maxRecDepth 100000 in
theorem DL_match_ok : ∀ q ∈ DL_match, decode cL_match q.1 = .ok q.2 := ck_ok (by decide +kernel)
def DL_text : List (Nat × Instr × Nat) := [(0, .aload_n 2, 1), (1, .aload_n 0, 1), (2, .iload_n 1, 1), (3, .invokevirtual 75, 3), (6, .putfield 79, 3), (9, .goto 6, 3), (12, .astore_n 3, 1), (13, .iconst 1, 1), (14, .ireturn, 1), (15, .iconst 0, 1), (16, .ireturn, 1)]
set_option maxRecDepth 100000 in
theorem DL_text_ok : ∀ q ∈ DL_text, decode cL_text q.1 = .ok q.2 := ck_ok (by decide +kernel)
def DL_size : List (Nat × Instr × Nat) := [(0, .aload_n 2, 1), (1, .aload_n 0, 1), (2, .iload_n 1, 1), (3, .invokevirtual 83, 3), (6, .i2l, 1), (7, .putfield 13, 3), (10, .goto 6, 3), (13, .astore_n 3, 1), (14, .iconst 1, 1), (15, .ireturn, 1), (16, .iconst 0, 1), (17, .ireturn, 1)]
set_option maxRecDepth 100000 in
theorem DL_size_ok : ∀ q ∈ DL_size, decode cL_size q.1 = .ok q.2 := ck_ok (by decide +kernel)
def DL_depth : List (Nat × Instr × Nat) := [(0, .aload_n 2, 1), (1, .aload_n 0, 1), (2, .iload_n 1, 1), (3, .invokevirtual 86, 3), (6, .i2l, 1), (7, .putfield 13, 3), (10, .goto 6, 3), (13, .astore_n 3, 1), (14, .iconst 1, 1), (15, .ireturn, 1), (16, .iconst 0, 1), (17, .ireturn, 1)]
set_option maxRecDepth 100000 in
theorem DL_depth_ok : ∀ q ∈ DL_depth, decode cL_depth q.1 = .ok q.2 := ck_ok (by decide +kernel)
def DL_shared : List (Nat × Instr × Nat) := [(0, .aload_n 2, 1), (1, .aload_n 0, 1), (2, .iload_n 1, 1), (3, .invokevirtual 89, 3), (6, .i2l, 1), (7, .putfield 13, 3), (10, .goto 6, 3), (13, .astore_n 3, 1), (14, .iconst 1, 1), (15, .ireturn, 1), (16, .iconst 0, 1), (17, .ireturn, 1)]
set_option maxRecDepth 100000 in
theorem DL_shared_ok : ∀ q ∈ DL_shared, decode cL_shared q.1 = .ok q.2 := ck_ok (by decide +kernel)
def DL_letter : List (Nat × Instr × Nat) := [(0, .aload_n 3, 1), (1, .aload_n 0, 1), (2, .iload_n 1, 1), (3, .iload_n 2, 1), (4, .invokevirtual 92, 3), (7, .i2l, 1), (8, .putfield 13, 3), (11, .goto 7, 3), (14, .astore 4, 2), (16, .iconst 1, 1), (17, .ireturn, 1), (18, .iconst 0, 1), (19, .ireturn, 1)]
set_option maxRecDepth 100000 in
theorem DL_letter_ok : ∀ q ∈ DL_letter, decode cL_letter q.1 = .ok q.2 := ck_ok (by decide +kernel)
def DL_sizeAt : List (Nat × Instr × Nat) := [(0, .aload_n 3, 1), (1, .aload_n 0, 1), (2, .iload_n 1, 1), (3, .iload_n 2, 1), (4, .invokevirtual 95, 3), (7, .i2l, 1), (8, .putfield 13, 3), (11, .goto 7, 3), (14, .astore 4, 2), (16, .iconst 1, 1), (17, .ireturn, 1), (18, .iconst 0, 1), (19, .ireturn, 1)]
set_option maxRecDepth 100000 in
theorem DL_sizeAt_ok : ∀ q ∈ DL_sizeAt, decode cL_sizeAt q.1 = .ok q.2 := ck_ok (by decide +kernel)
def DL_count : List (Nat × Instr × Nat) := [(0, .aload_n 3, 1), (1, .aload_n 0, 1), (2, .iload_n 1, 1), (3, .iload_n 2, 1), (4, .invokevirtual 98, 3), (7, .i2l, 1), (8, .putfield 13, 3), (11, .goto 11, 3), (14, .astore 4, 2), (16, .iconst 1, 1), (17, .ireturn, 1), (18, .astore 4, 2), (20, .iconst 2, 1), (21, .ireturn, 1), (22, .iconst 0, 1), (23, .ireturn, 1)]
set_option maxRecDepth 100000 in
theorem DL_count_ok : ∀ q ∈ DL_count, decode cL_count q.1 = .ok q.2 := ck_ok (by decide +kernel)
def DL_names : List (Nat × Instr × Nat) := [(0, .aload_n 2, 1), (1, .aload_n 0, 1), (2, .iload_n 1, 1), (3, .invokevirtual 101, 3), (6, .i2l, 1), (7, .putfield 13, 3), (10, .goto 6, 3), (13, .astore_n 3, 1), (14, .iconst 1, 1), (15, .ireturn, 1), (16, .iconst 0, 1), (17, .ireturn, 1)]
set_option maxRecDepth 100000 in
theorem DL_names_ok : ∀ q ∈ DL_names, decode cL_names q.1 = .ok q.2 := ck_ok (by decide +kernel)
def DL_find : List (Nat × Instr × Nat) := [(0, .aload_n 3, 1), (1, .aload_n 0, 1), (2, .iload_n 1, 1), (3, .iload_n 2, 1), (4, .invokevirtual 104, 3), (7, .i2l, 1), (8, .putfield 13, 3), (11, .goto 7, 3), (14, .astore 4, 2), (16, .iconst 1, 1), (17, .ireturn, 1), (18, .iconst 0, 1), (19, .ireturn, 1)]
set_option maxRecDepth 100000 in
theorem DL_find_ok : ∀ q ∈ DL_find, decode cL_find q.1 = .ok q.2 := ck_ok (by decide +kernel)
def DL_differ : List (Nat × Instr × Nat) := [(0, .aload_n 3, 1), (1, .aload_n 0, 1), (2, .iload_n 1, 1), (3, .iload_n 2, 1), (4, .invokevirtual 107, 3), (7, .i2l, 1), (8, .putfield 13, 3), (11, .goto 7, 3), (14, .astore 4, 2), (16, .iconst 1, 1), (17, .ireturn, 1), (18, .iconst 0, 1), (19, .ireturn, 1)]
set_option maxRecDepth 100000 in
theorem DL_differ_ok : ∀ q ∈ DL_differ, decode cL_differ q.1 = .ok q.2 := ck_ok (by decide +kernel)
def DL_is : List (Nat × Instr × Nat) := [(0, .aload 4, 2), (2, .aload_n 0, 1), (3, .iload_n 1, 1), (4, .iload_n 2, 1), (5, .iload_n 3, 1), (6, .invokevirtual 110, 3), (9, .ifCond .eq 7, 3), (12, .lconst 1, 1), (13, .goto 4, 3), (16, .lconst 0, 1), (17, .putfield 13, 3), (20, .goto 11, 3), (23, .astore 5, 2), (25, .iconst 1, 1), (26, .ireturn, 1), (27, .astore 5, 2), (29, .iconst 2, 1), (30, .ireturn, 1), (31, .iconst 0, 1), (32, .ireturn, 1)]
set_option maxRecDepth 100000 in
theorem DL_is_ok : ∀ q ∈ DL_is, decode cL_is q.1 = .ok q.2 := ck_ok (by decide +kernel)
def DL_can : List (Nat × Instr × Nat) := [(0, .aload 4, 2), (2, .aload_n 0, 1), (3, .iload_n 1, 1), (4, .iload_n 2, 1), (5, .iload_n 3, 1), (6, .invokevirtual 114, 3), (9, .ifCond .eq 7, 3), (12, .lconst 1, 1), (13, .goto 4, 3), (16, .lconst 0, 1), (17, .putfield 13, 3), (20, .goto 11, 3), (23, .astore 5, 2), (25, .iconst 1, 1), (26, .ireturn, 1), (27, .astore 5, 2), (29, .iconst 2, 1), (30, .ireturn, 1), (31, .iconst 0, 1), (32, .ireturn, 1)]
set_option maxRecDepth 100000 in
theorem DL_can_ok : ∀ q ∈ DL_can, decode cL_can q.1 = .ok q.2 := ck_ok (by decide +kernel)
def DL_steps : List (Nat × Instr × Nat) := [(0, .aload_n 3, 1), (1, .aload_n 0, 1), (2, .iload_n 1, 1), (3, .iload_n 2, 1), (4, .invokevirtual 117, 3), (7, .i2l, 1), (8, .putfield 13, 3), (11, .goto 7, 3), (14, .astore 4, 2), (16, .iconst 1, 1), (17, .ireturn, 1), (18, .iconst 0, 1), (19, .ireturn, 1)]
set_option maxRecDepth 100000 in
theorem DL_steps_ok : ∀ q ∈ DL_steps, decode cL_steps q.1 = .ok q.2 := ck_ok (by decide +kernel)
def DL_why : List (Nat × Instr × Nat) := [(0, .aload_n 3, 1), (1, .aload_n 0, 1), (2, .iload_n 1, 1), (3, .iload_n 2, 1), (4, .invokevirtual 120, 3), (7, .i2l, 1), (8, .putfield 13, 3), (11, .goto 7, 3), (14, .astore 4, 2), (16, .iconst 1, 1), (17, .ireturn, 1), (18, .iconst 0, 1), (19, .ireturn, 1)]
set_option maxRecDepth 100000 in
theorem DL_why_ok : ∀ q ∈ DL_why, decode cL_why q.1 = .ok q.2 := ck_ok (by decide +kernel)
def DL_told : List (Nat × Instr × Nat) := [(0, .aload_n 3, 1), (1, .aload_n 0, 1), (2, .iload_n 1, 1), (3, .iload_n 2, 1), (4, .invokevirtual 123, 3), (7, .putfield 79, 3), (10, .goto 11, 3), (13, .astore 4, 2), (15, .iconst 1, 1), (16, .ireturn, 1), (17, .astore 4, 2), (19, .iconst 2, 1), (20, .ireturn, 1), (21, .iconst 0, 1), (22, .ireturn, 1)]
set_option maxRecDepth 100000 in
theorem DL_told_ok : ∀ q ∈ DL_told, decode cL_told q.1 = .ok q.2 := ck_ok (by decide +kernel)
def DL_moved : List (Nat × Instr × Nat) := [(0, .aload_n 2, 1), (1, .aload_n 0, 1), (2, .iload_n 1, 1), (3, .invokevirtual 127, 3), (6, .i2l, 1), (7, .putfield 13, 3), (10, .goto 6, 3), (13, .astore_n 3, 1), (14, .iconst 1, 1), (15, .ireturn, 1), (16, .iconst 0, 1), (17, .ireturn, 1)]
set_option maxRecDepth 100000 in
theorem DL_moved_ok : ∀ q ∈ DL_moved, decode cL_moved q.1 = .ok q.2 := ck_ok (by decide +kernel)
def DL_makes : List (Nat × Instr × Nat) := [(0, .aload 4, 2), (2, .aload_n 0, 1), (3, .iload_n 1, 1), (4, .iload_n 2, 1), (5, .iload_n 3, 1), (6, .invokevirtual 130, 3), (9, .ifCond .eq 7, 3), (12, .lconst 1, 1), (13, .goto 4, 3), (16, .lconst 0, 1), (17, .putfield 13, 3), (20, .goto 7, 3), (23, .astore 5, 2), (25, .iconst 1, 1), (26, .ireturn, 1), (27, .iconst 0, 1), (28, .ireturn, 1)]
set_option maxRecDepth 100000 in
theorem DL_makes_ok : ∀ q ∈ DL_makes, decode cL_makes q.1 = .ok q.2 := ck_ok (by decide +kernel)
def DL_isSo : List (Nat × Instr × Nat) := [(0, .aload_n 3, 1), (1, .aload_n 0, 1), (2, .iload_n 1, 1), (3, .iload_n 2, 1), (4, .invokevirtual 133, 3), (7, .ifCond .eq 7, 3), (10, .lconst 1, 1), (11, .goto 4, 3), (14, .lconst 0, 1), (15, .putfield 13, 3), (18, .goto 11, 3), (21, .astore 4, 2), (23, .iconst 1, 1), (24, .ireturn, 1), (25, .astore 4, 2), (27, .iconst 2, 1), (28, .ireturn, 1), (29, .iconst 0, 1), (30, .ireturn, 1)]
set_option maxRecDepth 100000 in
theorem DL_isSo_ok : ∀ q ∈ DL_isSo, decode cL_isSo q.1 = .ok q.2 := ck_ok (by decide +kernel)
def DL_unlike : List (Nat × Instr × Nat) := [(0, .aload_n 3, 1), (1, .aload_n 0, 1), (2, .iload_n 1, 1), (3, .iload_n 2, 1), (4, .invokevirtual 137, 3), (7, .i2l, 1), (8, .putfield 13, 3), (11, .goto 7, 3), (14, .astore 4, 2), (16, .iconst 1, 1), (17, .ireturn, 1), (18, .iconst 0, 1), (19, .ireturn, 1)]
set_option maxRecDepth 100000 in
theorem DL_unlike_ok : ∀ q ∈ DL_unlike, decode cL_unlike q.1 = .ok q.2 := ck_ok (by decide +kernel)
def DL_weight : List (Nat × Instr × Nat) := [(0, .aload_n 3, 1), (1, .aload_n 0, 1), (2, .iload_n 1, 1), (3, .iload_n 2, 1), (4, .invokevirtual 140, 3), (7, .i2l, 1), (8, .putfield 13, 3), (11, .goto 7, 3), (14, .astore 4, 2), (16, .iconst 1, 1), (17, .ireturn, 1), (18, .iconst 0, 1), (19, .ireturn, 1)]
set_option maxRecDepth 100000 in
theorem DL_weight_ok : ∀ q ∈ DL_weight, decode cL_weight q.1 = .ok q.2 := ck_ok (by decide +kernel)
def DL_house : List (Nat × Instr × Nat) := [(0, .aload_n 2, 1), (1, .aload_n 0, 1), (2, .iload_n 1, 1), (3, .invokevirtual 144, 3), (6, .i2l, 1), (7, .putfield 13, 3), (10, .goto 6, 3), (13, .astore_n 3, 1), (14, .iconst 1, 1), (15, .ireturn, 1), (16, .iconst 0, 1), (17, .ireturn, 1)]
set_option maxRecDepth 100000 in
theorem DL_house_ok : ∀ q ∈ DL_house, decode cL_house q.1 = .ok q.2 := ck_ok (by decide +kernel)
def SL_a : List UInt8 := [0xbb, 0x00, 0x08, 0x59, 0xb7, 0x00, 0x93, 0x4c, 0xbb, 0x00, 0x94, 0x59, 0xb7, 0x00, 0x96, 0x4d, 0xbb, 0x00, 0x0e, 0x59, 0xb7, 0x00, 0x97, 0x4e, 0x03, 0x36, 0x04, 0x15, 0x04, 0x2a, 0xbe, 0x10, 0x06, 0x64, 0xa3, 0x07, 0x3f, 0x2a, 0x15, 0x04, 0x2e, 0x10, 0x3f, 0x7e, 0xaa, 0x00, 0x00, 0x00, 0x00, 0x00, 0x07, 0x2f, 0x00, 0x00, 0x00, 0x00, 0x00, 0x00, 0x00, 0x28, 0x00, 0x00, 0x00, 0xb4, 0x00, 0x00, 0x00, 0xdc, 0x00, 0x00, 0x01, 0x28, 0x00, 0x00, 0x01, 0x50, 0x00, 0x00, 0x01, 0x78, 0x00, 0x00, 0x01, 0xac, 0x00, 0x00, 0x01, 0xe0, 0x00, 0x00, 0x02, 0x14, 0x00, 0x00, 0x02, 0x3c, 0x00, 0x00, 0x02, 0x58, 0x00, 0x00, 0x02, 0x8c, 0x00, 0x00, 0x02, 0xc0, 0x00, 0x00, 0x02, 0xdc, 0x00, 0x00, 0x03, 0x10, 0x00, 0x00, 0x03, 0x38, 0x00, 0x00, 0x03, 0x6c, 0x00, 0x00, 0x03, 0xac, 0x00, 0x00, 0x03, 0xe0, 0x00, 0x00, 0x03, 0xfc, 0x00, 0x00, 0x04, 0x18, 0x00, 0x00, 0x04, 0x34, 0x00, 0x00, 0x04, 0x50, 0x00, 0x00, 0x04, 0x78, 0x00, 0x00, 0x04, 0xa0, 0x00, 0x00, 0x04, 0xc8, 0x00, 0x00, 0x04, 0xe4, 0x00, 0x00, 0x05, 0x0c, 0x00, 0x00, 0x05, 0x34, 0x00, 0x00, 0x05, 0x68, 0x00, 0x00, 0x05, 0x9c, 0x00, 0x00, 0x05, 0xc4, 0x00, 0x00, 0x05, 0xec, 0x00, 0x00, 0x06, 0x14, 0x00, 0x00, 0x06, 0x30, 0x00, 0x00, 0x06, 0x64, 0x00, 0x00, 0x06, 0x8c, 0x00, 0x00, 0x06, 0xb4, 0x00, 0x00, 0x06, 0xec, 0x00, 0x00, 0x07, 0x08, 0x00, 0x00, 0x07, 0x15, 0x00, 0x00, 0x07, 0x22]
def SL_c0 : List UInt8 := [0x2b, 0x2a, 0x15, 0x04, 0x04, 0x60, 0x2e, 0x2a, 0x15, 0x04, 0x05, 0x60, 0x2e, 0x2d, 0xb8, 0x00, 0x98, 0x36, 0x05, 0x2c, 0x2a, 0x15, 0x04, 0x04, 0x60, 0x2e, 0x2a, 0x15, 0x04, 0x05, 0x60, 0x2e, 0xb6, 0x00, 0x9d, 0x36, 0x06, 0xa7, 0x06, 0x56]
def SL_c1 : List UInt8 := [0x2b, 0x2a, 0x15, 0x04, 0x04, 0x60, 0x2e, 0x2a, 0x15, 0x04, 0x05, 0x60, 0x2e, 0x2a, 0x15, 0x04, 0x06, 0x60, 0x2e, 0x2a, 0x15, 0x04, 0x07, 0x60, 0x2e, 0x2a, 0x15, 0x04, 0x08, 0x60, 0x2e, 0x2d, 0xb8, 0x00, 0x9e, 0x36, 0x05, 0x2c, 0x2a, 0x15, 0x04, 0x04, 0x60, 0x2e, 0x2a, 0x15, 0x04, 0x05, 0x60, 0x2e, 0x2a, 0x15, 0x04, 0x06, 0x60, 0x2e, 0x2a, 0x15, 0x04, 0x07, 0x60, 0x2e, 0x2a, 0x15, 0x04, 0x08, 0x60, 0x2e, 0xb6, 0x00, 0xa1, 0x36, 0x06, 0xa7, 0x06, 0x0a]
def SL_c2 : List UInt8 := [0x2b, 0x2a, 0x15, 0x04, 0x04, 0x60, 0x2e, 0x2a, 0x15, 0x04, 0x05, 0x60, 0x2e, 0x2d, 0xb8, 0x00, 0xa2, 0x36, 0x05, 0x2c, 0x2a, 0x15, 0x04, 0x04, 0x60, 0x2e, 0x2a, 0x15, 0x04, 0x05, 0x60, 0x2e, 0xb6, 0x00, 0xa4, 0x36, 0x06, 0xa7, 0x05, 0xe2]
def SL_c3 : List UInt8 := [0x2b, 0x2a, 0x15, 0x04, 0x04, 0x60, 0x2e, 0x2a, 0x15, 0x04, 0x05, 0x60, 0x2e, 0x2d, 0xb8, 0x00, 0xa5, 0x36, 0x05, 0x2c, 0x2a, 0x15, 0x04, 0x04, 0x60, 0x2e, 0x2a, 0x15, 0x04, 0x05, 0x60, 0x2e, 0xb6, 0x00, 0xa7, 0x36, 0x06, 0xa7, 0x05, 0xba]
def SL_c4 : List UInt8 := [0x2b, 0x2a, 0x15, 0x04, 0x04, 0x60, 0x2e, 0x2a, 0x15, 0x04, 0x05, 0x60, 0x2e, 0x2a, 0x15, 0x04, 0x06, 0x60, 0x2e, 0x2d, 0xb8, 0x00, 0xa8, 0x36, 0x05, 0x2c, 0x2a, 0x15, 0x04, 0x04, 0x60, 0x2e, 0x2a, 0x15, 0x04, 0x05, 0x60, 0x2e, 0x2a, 0x15, 0x04, 0x06, 0x60, 0x2e, 0xb6, 0x00, 0xab, 0x36, 0x06, 0xa7, 0x05, 0x86]
def SL_c5 : List UInt8 := [0x2b, 0x2a, 0x15, 0x04, 0x04, 0x60, 0x2e, 0x2a, 0x15, 0x04, 0x05, 0x60, 0x2e, 0x2a, 0x15, 0x04, 0x06, 0x60, 0x2e, 0x2d, 0xb8, 0x00, 0xac, 0x36, 0x05, 0x2c, 0x2a, 0x15, 0x04, 0x04, 0x60, 0x2e, 0x2a, 0x15, 0x04, 0x05, 0x60, 0x2e, 0x2a, 0x15, 0x04, 0x06, 0x60, 0x2e, 0xb6, 0x00, 0xae, 0x36, 0x06, 0xa7, 0x05, 0x52]
def SL_c6 : List UInt8 := [0x2b, 0x2a, 0x15, 0x04, 0x04, 0x60, 0x2e, 0x2a, 0x15, 0x04, 0x05, 0x60, 0x2e, 0x2a, 0x15, 0x04, 0x06, 0x60, 0x2e, 0x2d, 0xb8, 0x00, 0xaf, 0x36, 0x05, 0x2c, 0x2a, 0x15, 0x04, 0x04, 0x60, 0x2e, 0x2a, 0x15, 0x04, 0x05, 0x60, 0x2e, 0x2a, 0x15, 0x04, 0x06, 0x60, 0x2e, 0xb6, 0x00, 0xb1, 0x36, 0x06, 0xa7, 0x05, 0x1e]
def SL_c7 : List UInt8 := [0x2b, 0x2a, 0x15, 0x04, 0x04, 0x60, 0x2e, 0x2a, 0x15, 0x04, 0x05, 0x60, 0x2e, 0x2d, 0xb8, 0x00, 0xb2, 0x36, 0x05, 0x2c, 0x2a, 0x15, 0x04, 0x04, 0x60, 0x2e, 0x2a, 0x15, 0x04, 0x05, 0x60, 0x2e, 0xb6, 0x00, 0xb4, 0x36, 0x06, 0xa7, 0x04, 0xf6]
def SL_c8 : List UInt8 := [0x2b, 0x2a, 0x15, 0x04, 0x04, 0x60, 0x2e, 0x2d, 0xb8, 0x00, 0xb5, 0x36, 0x05, 0x2c, 0x2a, 0x15, 0x04, 0x04, 0x60, 0x2e, 0xb6, 0x00, 0xb8, 0x36, 0x06, 0xa7, 0x04, 0xda]
def SL_c9 : List UInt8 := [0x2b, 0x2a, 0x15, 0x04, 0x04, 0x60, 0x2e, 0x2a, 0x15, 0x04, 0x05, 0x60, 0x2e, 0x2a, 0x15, 0x04, 0x06, 0x60, 0x2e, 0x2d, 0xb8, 0x00, 0xb9, 0x36, 0x05, 0x2c, 0x2a, 0x15, 0x04, 0x04, 0x60, 0x2e, 0x2a, 0x15, 0x04, 0x05, 0x60, 0x2e, 0x2a, 0x15, 0x04, 0x06, 0x60, 0x2e, 0xb6, 0x00, 0xbb, 0x36, 0x06, 0xa7, 0x04, 0xa6]
def SL_c10 : List UInt8 := [0x2b, 0x2a, 0x15, 0x04, 0x04, 0x60, 0x2e, 0x2a, 0x15, 0x04, 0x05, 0x60, 0x2e, 0x2a, 0x15, 0x04, 0x06, 0x60, 0x2e, 0x2d, 0xb8, 0x00, 0xbc, 0x36, 0x05, 0x2c, 0x2a, 0x15, 0x04, 0x04, 0x60, 0x2e, 0x2a, 0x15, 0x04, 0x05, 0x60, 0x2e, 0x2a, 0x15, 0x04, 0x06, 0x60, 0x2e, 0xb6, 0x00, 0xbe, 0x36, 0x06, 0xa7, 0x04, 0x72]
def SL_c11 : List UInt8 := [0x2b, 0x2a, 0x15, 0x04, 0x04, 0x60, 0x2e, 0x2d, 0xb8, 0x00, 0xbf, 0x36, 0x05, 0x2c, 0x2a, 0x15, 0x04, 0x04, 0x60, 0x2e, 0xb6, 0x00, 0xc1, 0x36, 0x06, 0xa7, 0x04, 0x56]
def SL_c12 : List UInt8 := [0x2b, 0x2a, 0x15, 0x04, 0x04, 0x60, 0x2e, 0x2a, 0x15, 0x04, 0x05, 0x60, 0x2e, 0x2a, 0x15, 0x04, 0x06, 0x60, 0x2e, 0x2d, 0xb8, 0x00, 0xc2, 0x36, 0x05, 0x2c, 0x2a, 0x15, 0x04, 0x04, 0x60, 0x2e, 0x2a, 0x15, 0x04, 0x05, 0x60, 0x2e, 0x2a, 0x15, 0x04, 0x06, 0x60, 0x2e, 0xb6, 0x00, 0xc4, 0x36, 0x06, 0xa7, 0x04, 0x22]
def SL_c13 : List UInt8 := [0x2b, 0x2a, 0x15, 0x04, 0x04, 0x60, 0x2e, 0x2a, 0x15, 0x04, 0x05, 0x60, 0x2e, 0x2d, 0xb8, 0x00, 0xc5, 0x36, 0x05, 0x2c, 0x2a, 0x15, 0x04, 0x04, 0x60, 0x2e, 0x2a, 0x15, 0x04, 0x05, 0x60, 0x2e, 0xb6, 0x00, 0xc7, 0x36, 0x06, 0xa7, 0x03, 0xfa]
def SL_c14 : List UInt8 := [0x2b, 0x2a, 0x15, 0x04, 0x04, 0x60, 0x2e, 0x2a, 0x15, 0x04, 0x05, 0x60, 0x2e, 0x2a, 0x15, 0x04, 0x06, 0x60, 0x2e, 0x2d, 0xb8, 0x00, 0xc8, 0x36, 0x05, 0x2c, 0x2a, 0x15, 0x04, 0x04, 0x60, 0x2e, 0x2a, 0x15, 0x04, 0x05, 0x60, 0x2e, 0x2a, 0x15, 0x04, 0x06, 0x60, 0x2e, 0xb6, 0x00, 0xca, 0x36, 0x06, 0xa7, 0x03, 0xc6]
def SL_c15 : List UInt8 := [0x2b, 0x2a, 0x15, 0x04, 0x04, 0x60, 0x2e, 0x2a, 0x15, 0x04, 0x05, 0x60, 0x2e, 0x2a, 0x15, 0x04, 0x06, 0x60, 0x2e, 0x2a, 0x15, 0x04, 0x07, 0x60, 0x2e, 0x2d, 0xb8, 0x00, 0xcb, 0x36, 0x05, 0x2c, 0x2a, 0x15, 0x04, 0x04, 0x60, 0x2e, 0x2a, 0x15, 0x04, 0x05, 0x60, 0x2e, 0x2a, 0x15, 0x04, 0x06, 0x60, 0x2e, 0x2a, 0x15, 0x04, 0x07, 0x60, 0x2e, 0xb6, 0x00, 0xce, 0x36, 0x06, 0xa7, 0x03, 0x86]
def SL_c16 : List UInt8 := [0x2b, 0x2a, 0x15, 0x04, 0x04, 0x60, 0x2e, 0x2a, 0x15, 0x04, 0x05, 0x60, 0x2e, 0x2a, 0x15, 0x04, 0x06, 0x60, 0x2e, 0x2d, 0xb8, 0x00, 0xcf, 0x36, 0x05, 0x2c, 0x2a, 0x15, 0x04, 0x04, 0x60, 0x2e, 0x2a, 0x15, 0x04, 0x05, 0x60, 0x2e, 0x2a, 0x15, 0x04, 0x06, 0x60, 0x2e, 0xb6, 0x00, 0xd1, 0x36, 0x06, 0xa7, 0x03, 0x52]
def SL_c17 : List UInt8 := [0x2b, 0x2a, 0x15, 0x04, 0x04, 0x60, 0x2e, 0x2d, 0xb8, 0x00, 0xd2, 0x36, 0x05, 0x2c, 0x2a, 0x15, 0x04, 0x04, 0x60, 0x2e, 0xb6, 0x00, 0xd4, 0x3a, 0x06, 0xa7, 0x03, 0x36]
def SL_c18 : List UInt8 := [0x2b, 0x2a, 0x15, 0x04, 0x04, 0x60, 0x2e, 0x2d, 0xb8, 0x00, 0xd5, 0x36, 0x05, 0x2c, 0x2a, 0x15, 0x04, 0x04, 0x60, 0x2e, 0xb6, 0x00, 0xd7, 0x36, 0x06, 0xa7, 0x03, 0x1a]
def SL_c19 : List UInt8 := [0x2b, 0x2a, 0x15, 0x04, 0x04, 0x60, 0x2e, 0x2d, 0xb8, 0x00, 0xd8, 0x36, 0x05, 0x2c, 0x2a, 0x15, 0x04, 0x04, 0x60, 0x2e, 0xb6, 0x00, 0xda, 0x36, 0x06, 0xa7, 0x02, 0xfe]
def SL_c20 : List UInt8 := [0x2b, 0x2a, 0x15, 0x04, 0x04, 0x60, 0x2e, 0x2d, 0xb8, 0x00, 0xdb, 0x36, 0x05, 0x2c, 0x2a, 0x15, 0x04, 0x04, 0x60, 0x2e, 0xb6, 0x00, 0xdd, 0x36, 0x06, 0xa7, 0x02, 0xe2]
def SL_c21 : List UInt8 := [0x2b, 0x2a, 0x15, 0x04, 0x04, 0x60, 0x2e, 0x2a, 0x15, 0x04, 0x05, 0x60, 0x2e, 0x2d, 0xb8, 0x00, 0xde, 0x36, 0x05, 0x2c, 0x2a, 0x15, 0x04, 0x04, 0x60, 0x2e, 0x2a, 0x15, 0x04, 0x05, 0x60, 0x2e, 0xb6, 0x00, 0xe0, 0x36, 0x06, 0xa7, 0x02, 0xba]
def SL_c22 : List UInt8 := [0x2b, 0x2a, 0x15, 0x04, 0x04, 0x60, 0x2e, 0x2a, 0x15, 0x04, 0x05, 0x60, 0x2e, 0x2d, 0xb8, 0x00, 0xe1, 0x36, 0x05, 0x2c, 0x2a, 0x15, 0x04, 0x04, 0x60, 0x2e, 0x2a, 0x15, 0x04, 0x05, 0x60, 0x2e, 0xb6, 0x00, 0xe3, 0x36, 0x06, 0xa7, 0x02, 0x92]
def SL_c23 : List UInt8 := [0x2b, 0x2a, 0x15, 0x04, 0x04, 0x60, 0x2e, 0x2a, 0x15, 0x04, 0x05, 0x60, 0x2e, 0x2d, 0xb8, 0x00, 0xe4, 0x36, 0x05, 0x2c, 0x2a, 0x15, 0x04, 0x04, 0x60, 0x2e, 0x2a, 0x15, 0x04, 0x05, 0x60, 0x2e, 0xb6, 0x00, 0xe6, 0x36, 0x06, 0xa7, 0x02, 0x6a]
def SL_c24 : List UInt8 := [0x2b, 0x2a, 0x15, 0x04, 0x04, 0x60, 0x2e, 0x2d, 0xb8, 0x00, 0xe7, 0x36, 0x05, 0x2c, 0x2a, 0x15, 0x04, 0x04, 0x60, 0x2e, 0xb6, 0x00, 0xe9, 0x36, 0x06, 0xa7, 0x02, 0x4e]
def SL_c25 : List UInt8 := [0x2b, 0x2a, 0x15, 0x04, 0x04, 0x60, 0x2e, 0x2a, 0x15, 0x04, 0x05, 0x60, 0x2e, 0x2d, 0xb8, 0x00, 0xea, 0x36, 0x05, 0x2c, 0x2a, 0x15, 0x04, 0x04, 0x60, 0x2e, 0x2a, 0x15, 0x04, 0x05, 0x60, 0x2e, 0xb6, 0x00, 0xec, 0x36, 0x06, 0xa7, 0x02, 0x26]
def SL_c26 : List UInt8 := [0x2b, 0x2a, 0x15, 0x04, 0x04, 0x60, 0x2e, 0x2a, 0x15, 0x04, 0x05, 0x60, 0x2e, 0x2d, 0xb8, 0x00, 0xed, 0x36, 0x05, 0x2c, 0x2a, 0x15, 0x04, 0x04, 0x60, 0x2e, 0x2a, 0x15, 0x04, 0x05, 0x60, 0x2e, 0xb6, 0x00, 0xef, 0x36, 0x06, 0xa7, 0x01, 0xfe]
def SL_c27 : List UInt8 := [0x2b, 0x2a, 0x15, 0x04, 0x04, 0x60, 0x2e, 0x2a, 0x15, 0x04, 0x05, 0x60, 0x2e, 0x2a, 0x15, 0x04, 0x06, 0x60, 0x2e, 0x2d, 0xb8, 0x00, 0xf0, 0x36, 0x05, 0x2c, 0x2a, 0x15, 0x04, 0x04, 0x60, 0x2e, 0x2a, 0x15, 0x04, 0x05, 0x60, 0x2e, 0x2a, 0x15, 0x04, 0x06, 0x60, 0x2e, 0xb6, 0x00, 0xf2, 0x36, 0x06, 0xa7, 0x01, 0xca]
def SL_c28 : List UInt8 := [0x2b, 0x2a, 0x15, 0x04, 0x04, 0x60, 0x2e, 0x2a, 0x15, 0x04, 0x05, 0x60, 0x2e, 0x2a, 0x15, 0x04, 0x06, 0x60, 0x2e, 0x2d, 0xb8, 0x00, 0xf3, 0x36, 0x05, 0x2c, 0x2a, 0x15, 0x04, 0x04, 0x60, 0x2e, 0x2a, 0x15, 0x04, 0x05, 0x60, 0x2e, 0x2a, 0x15, 0x04, 0x06, 0x60, 0x2e, 0xb6, 0x00, 0xf5, 0x36, 0x06, 0xa7, 0x01, 0x96]
def SL_c29 : List UInt8 := [0x2b, 0x2a, 0x15, 0x04, 0x04, 0x60, 0x2e, 0x2a, 0x15, 0x04, 0x05, 0x60, 0x2e, 0x2d, 0xb8, 0x00, 0xf6, 0x36, 0x05, 0x2c, 0x2a, 0x15, 0x04, 0x04, 0x60, 0x2e, 0x2a, 0x15, 0x04, 0x05, 0x60, 0x2e, 0xb6, 0x00, 0xf8, 0x36, 0x06, 0xa7, 0x01, 0x6e]
def SL_c30 : List UInt8 := [0x2b, 0x2a, 0x15, 0x04, 0x04, 0x60, 0x2e, 0x2a, 0x15, 0x04, 0x05, 0x60, 0x2e, 0x2d, 0xb8, 0x00, 0xf9, 0x36, 0x05, 0x2c, 0x2a, 0x15, 0x04, 0x04, 0x60, 0x2e, 0x2a, 0x15, 0x04, 0x05, 0x60, 0x2e, 0xb6, 0x00, 0xfb, 0x36, 0x06, 0xa7, 0x01, 0x46]
def SL_c31 : List UInt8 := [0x2b, 0x2a, 0x15, 0x04, 0x04, 0x60, 0x2e, 0x2a, 0x15, 0x04, 0x05, 0x60, 0x2e, 0x2d, 0xb8, 0x00, 0xfc, 0x36, 0x05, 0x2c, 0x2a, 0x15, 0x04, 0x04, 0x60, 0x2e, 0x2a, 0x15, 0x04, 0x05, 0x60, 0x2e, 0xb6, 0x00, 0xfe, 0x3a, 0x06, 0xa7, 0x01, 0x1e]
def SL_c32 : List UInt8 := [0x2b, 0x2a, 0x15, 0x04, 0x04, 0x60, 0x2e, 0x2d, 0xb8, 0x00, 0xff, 0x36, 0x05, 0x2c, 0x2a, 0x15, 0x04, 0x04, 0x60, 0x2e, 0xb6, 0x01, 0x01, 0x36, 0x06, 0xa7, 0x01, 0x02]
def SL_c33 : List UInt8 := [0x2b, 0x2a, 0x15, 0x04, 0x04, 0x60, 0x2e, 0x2a, 0x15, 0x04, 0x05, 0x60, 0x2e, 0x2a, 0x15, 0x04, 0x06, 0x60, 0x2e, 0x2d, 0xb8, 0x01, 0x02, 0x36, 0x05, 0x2c, 0x2a, 0x15, 0x04, 0x04, 0x60, 0x2e, 0x2a, 0x15, 0x04, 0x05, 0x60, 0x2e, 0x2a, 0x15, 0x04, 0x06, 0x60, 0x2e, 0xb6, 0x01, 0x04, 0x36, 0x06, 0xa7, 0x00, 0xce]
def SL_c34 : List UInt8 := [0x2b, 0x2a, 0x15, 0x04, 0x04, 0x60, 0x2e, 0x2a, 0x15, 0x04, 0x05, 0x60, 0x2e, 0x2d, 0xb8, 0x01, 0x05, 0x36, 0x05, 0x2c, 0x2a, 0x15, 0x04, 0x04, 0x60, 0x2e, 0x2a, 0x15, 0x04, 0x05, 0x60, 0x2e, 0xb6, 0x01, 0x07, 0x36, 0x06, 0xa7, 0x00, 0xa6]
def SL_c35 : List UInt8 := [0x2b, 0x2a, 0x15, 0x04, 0x04, 0x60, 0x2e, 0x2a, 0x15, 0x04, 0x05, 0x60, 0x2e, 0x2d, 0xb8, 0x01, 0x08, 0x36, 0x05, 0x2c, 0x2a, 0x15, 0x04, 0x04, 0x60, 0x2e, 0x2a, 0x15, 0x04, 0x05, 0x60, 0x2e, 0xb6, 0x01, 0x0a, 0x36, 0x06, 0xa7, 0x00, 0x7e]
def SL_c36 : List UInt8 := [0x2b, 0x2a, 0x15, 0x04, 0x04, 0x60, 0x2e, 0x2a, 0x15, 0x04, 0x05, 0x60, 0x2e, 0x99, 0x00, 0x07, 0x04, 0xa7, 0x00, 0x04, 0x03, 0x2d, 0xb8, 0x01, 0x0b, 0x36, 0x05, 0x2c, 0x2a, 0x15, 0x04, 0x04, 0x60, 0x2e, 0x2a, 0x15, 0x04, 0x05, 0x60, 0x2e, 0x99, 0x00, 0x07, 0x04, 0xa7, 0x00, 0x04, 0x03, 0xb6, 0x01, 0x0e, 0x36, 0x06, 0xa7, 0x00, 0x46]
def SL_c37 : List UInt8 := [0x2b, 0x2a, 0x15, 0x04, 0x04, 0x60, 0x2e, 0x2d, 0xb8, 0x01, 0x0f, 0x36, 0x05, 0x2c, 0x2a, 0x15, 0x04, 0x04, 0x60, 0x2e, 0xb6, 0x01, 0x11, 0x36, 0x06, 0xa7, 0x00, 0x2a]
def SL_c38 : List UInt8 := [0x2b, 0xb6, 0x01, 0x12, 0x57, 0x2c, 0xb6, 0x01, 0x16, 0x57, 0xa7, 0x00, 0x1d]
def SL_c39 : List UInt8 := [0x2b, 0xb6, 0x01, 0x17, 0x2c, 0xb6, 0x01, 0x1b, 0x9f, 0x00, 0x12, 0x03, 0xac]
def SL_c40 : List UInt8 := [0x2b, 0xb6, 0x01, 0x1c, 0x58, 0x2c, 0xb6, 0x01, 0x20, 0x58, 0xa7, 0x00, 0x03]
def SL_z : List UInt8 := [0x84, 0x04, 0x06, 0xa7, 0xf8, 0xbd, 0x04, 0xac]
def SLs : List (List UInt8) := [SL_a, SL_c0, SL_c1, SL_c2, SL_c3, SL_c4, SL_c5, SL_c6, SL_c7, SL_c8, SL_c9, SL_c10, SL_c11, SL_c12, SL_c13, SL_c14, SL_c15, SL_c16, SL_c17, SL_c18, SL_c19, SL_c20, SL_c21, SL_c22, SL_c23, SL_c24, SL_c25, SL_c26, SL_c27, SL_c28, SL_c29, SL_c30, SL_c31, SL_c32, SL_c33, SL_c34, SL_c35, SL_c36, SL_c37, SL_c38, SL_c39, SL_c40, SL_z]
set_option maxRecDepth 100000 in
theorem cL_bytes : cL_law.data.toList = SLs.flatten := by decide +kernel
def DL_a : List (Nat × Instr × Nat) := [(0, .new 8, 3), (3, .dup, 1), (4, .invokespecial 147, 3), (7, .astore_n 1, 1), (8, .new 148, 3), (11, .dup, 1), (12, .invokespecial 150, 3), (15, .astore_n 2, 1), (16, .new 14, 3), (19, .dup, 1), (20, .invokespecial 151, 3), (23, .astore_n 3, 1), (24, .iconst 0, 1), (25, .istore 4, 2), (27, .iload 4, 2), (29, .aload_n 0, 1), (30, .arraylength, 1), (31, .bipush 6, 2), (33, .isub, 1), (34, .if_icmp .gt 1855, 3), (37, .aload_n 0, 1), (38, .iload 4, 2), (40, .iaload, 1), (41, .bipush 63, 2), (43, .iand, 1), (44, .tableswitch 1839 0 40 #[180, 220, 296, 336, 376, 428, 480, 532, 572, 600, 652, 704, 732, 784, 824, 876, 940, 992, 1020, 1048, 1076, 1104, 1144, 1184, 1224, 1252, 1292, 1332, 1384, 1436, 1476, 1516, 1556, 1584, 1636, 1676, 1716, 1772, 1800, 1813, 1826], 180)]
set_option maxRecDepth 100000 in
theorem DL_a_ok : ∀ q ∈ DL_a, decode cL_law q.1 = .ok q.2 := by decide +kernel
def DL_c0 : List (Nat × Instr × Nat) := [(224, .aload_n 1, 1), (225, .aload_n 0, 1), (226, .iload 4, 2), (228, .iconst 1, 1), (229, .iadd, 1), (230, .iaload, 1), (231, .aload_n 0, 1), (232, .iload 4, 2), (234, .iconst 2, 1), (235, .iadd, 1), (236, .iaload, 1), (237, .aload_n 3, 1), (238, .invokestatic 152, 3), (241, .istore 5, 2), (243, .aload_n 2, 1), (244, .aload_n 0, 1), (245, .iload 4, 2), (247, .iconst 1, 1), (248, .iadd, 1), (249, .iaload, 1), (250, .aload_n 0, 1), (251, .iload 4, 2), (253, .iconst 2, 1), (254, .iadd, 1), (255, .iaload, 1), (256, .invokevirtual 157, 3), (259, .istore 6, 2), (261, .goto 1622, 3)]
set_option maxRecDepth 100000 in
theorem DL_c0_ok : ∀ q ∈ DL_c0, decode cL_law q.1 = .ok q.2 := ck_list cL_bytes (t := 1) (r := SL_c0) (d := 224) rfl (by decide +kernel) (by decide +kernel)
def DL_c1 : List (Nat × Instr × Nat) := [(264, .aload_n 1, 1), (265, .aload_n 0, 1), (266, .iload 4, 2), (268, .iconst 1, 1), (269, .iadd, 1), (270, .iaload, 1), (271, .aload_n 0, 1), (272, .iload 4, 2), (274, .iconst 2, 1), (275, .iadd, 1), (276, .iaload, 1), (277, .aload_n 0, 1), (278, .iload 4, 2), (280, .iconst 3, 1), (281, .iadd, 1), (282, .iaload, 1), (283, .aload_n 0, 1), (284, .iload 4, 2), (286, .iconst 4, 1), (287, .iadd, 1), (288, .iaload, 1), (289, .aload_n 0, 1), (290, .iload 4, 2), (292, .iconst 5, 1), (293, .iadd, 1), (294, .iaload, 1), (295, .aload_n 3, 1), (296, .invokestatic 158, 3), (299, .istore 5, 2), (301, .aload_n 2, 1), (302, .aload_n 0, 1), (303, .iload 4, 2), (305, .iconst 1, 1), (306, .iadd, 1), (307, .iaload, 1), (308, .aload_n 0, 1), (309, .iload 4, 2), (311, .iconst 2, 1), (312, .iadd, 1), (313, .iaload, 1), (314, .aload_n 0, 1), (315, .iload 4, 2), (317, .iconst 3, 1), (318, .iadd, 1), (319, .iaload, 1), (320, .aload_n 0, 1), (321, .iload 4, 2), (323, .iconst 4, 1), (324, .iadd, 1), (325, .iaload, 1), (326, .aload_n 0, 1), (327, .iload 4, 2), (329, .iconst 5, 1), (330, .iadd, 1), (331, .iaload, 1), (332, .invokevirtual 161, 3), (335, .istore 6, 2), (337, .goto 1546, 3)]
set_option maxRecDepth 100000 in
theorem DL_c1_ok : ∀ q ∈ DL_c1, decode cL_law q.1 = .ok q.2 := ck_list cL_bytes (t := 2) (r := SL_c1) (d := 264) rfl (by decide +kernel) (by decide +kernel)
def DL_c2 : List (Nat × Instr × Nat) := [(340, .aload_n 1, 1), (341, .aload_n 0, 1), (342, .iload 4, 2), (344, .iconst 1, 1), (345, .iadd, 1), (346, .iaload, 1), (347, .aload_n 0, 1), (348, .iload 4, 2), (350, .iconst 2, 1), (351, .iadd, 1), (352, .iaload, 1), (353, .aload_n 3, 1), (354, .invokestatic 162, 3), (357, .istore 5, 2), (359, .aload_n 2, 1), (360, .aload_n 0, 1), (361, .iload 4, 2), (363, .iconst 1, 1), (364, .iadd, 1), (365, .iaload, 1), (366, .aload_n 0, 1), (367, .iload 4, 2), (369, .iconst 2, 1), (370, .iadd, 1), (371, .iaload, 1), (372, .invokevirtual 164, 3), (375, .istore 6, 2), (377, .goto 1506, 3)]
set_option maxRecDepth 100000 in
theorem DL_c2_ok : ∀ q ∈ DL_c2, decode cL_law q.1 = .ok q.2 := ck_list cL_bytes (t := 3) (r := SL_c2) (d := 340) rfl (by decide +kernel) (by decide +kernel)
def DL_c3 : List (Nat × Instr × Nat) := [(380, .aload_n 1, 1), (381, .aload_n 0, 1), (382, .iload 4, 2), (384, .iconst 1, 1), (385, .iadd, 1), (386, .iaload, 1), (387, .aload_n 0, 1), (388, .iload 4, 2), (390, .iconst 2, 1), (391, .iadd, 1), (392, .iaload, 1), (393, .aload_n 3, 1), (394, .invokestatic 165, 3), (397, .istore 5, 2), (399, .aload_n 2, 1), (400, .aload_n 0, 1), (401, .iload 4, 2), (403, .iconst 1, 1), (404, .iadd, 1), (405, .iaload, 1), (406, .aload_n 0, 1), (407, .iload 4, 2), (409, .iconst 2, 1), (410, .iadd, 1), (411, .iaload, 1), (412, .invokevirtual 167, 3), (415, .istore 6, 2), (417, .goto 1466, 3)]
set_option maxRecDepth 100000 in
theorem DL_c3_ok : ∀ q ∈ DL_c3, decode cL_law q.1 = .ok q.2 := ck_list cL_bytes (t := 4) (r := SL_c3) (d := 380) rfl (by decide +kernel) (by decide +kernel)
def DL_c4 : List (Nat × Instr × Nat) := [(420, .aload_n 1, 1), (421, .aload_n 0, 1), (422, .iload 4, 2), (424, .iconst 1, 1), (425, .iadd, 1), (426, .iaload, 1), (427, .aload_n 0, 1), (428, .iload 4, 2), (430, .iconst 2, 1), (431, .iadd, 1), (432, .iaload, 1), (433, .aload_n 0, 1), (434, .iload 4, 2), (436, .iconst 3, 1), (437, .iadd, 1), (438, .iaload, 1), (439, .aload_n 3, 1), (440, .invokestatic 168, 3), (443, .istore 5, 2), (445, .aload_n 2, 1), (446, .aload_n 0, 1), (447, .iload 4, 2), (449, .iconst 1, 1), (450, .iadd, 1), (451, .iaload, 1), (452, .aload_n 0, 1), (453, .iload 4, 2), (455, .iconst 2, 1), (456, .iadd, 1), (457, .iaload, 1), (458, .aload_n 0, 1), (459, .iload 4, 2), (461, .iconst 3, 1), (462, .iadd, 1), (463, .iaload, 1), (464, .invokevirtual 171, 3), (467, .istore 6, 2), (469, .goto 1414, 3)]
set_option maxRecDepth 100000 in
theorem DL_c4_ok : ∀ q ∈ DL_c4, decode cL_law q.1 = .ok q.2 := ck_list cL_bytes (t := 5) (r := SL_c4) (d := 420) rfl (by decide +kernel) (by decide +kernel)
def DL_c5 : List (Nat × Instr × Nat) := [(472, .aload_n 1, 1), (473, .aload_n 0, 1), (474, .iload 4, 2), (476, .iconst 1, 1), (477, .iadd, 1), (478, .iaload, 1), (479, .aload_n 0, 1), (480, .iload 4, 2), (482, .iconst 2, 1), (483, .iadd, 1), (484, .iaload, 1), (485, .aload_n 0, 1), (486, .iload 4, 2), (488, .iconst 3, 1), (489, .iadd, 1), (490, .iaload, 1), (491, .aload_n 3, 1), (492, .invokestatic 172, 3), (495, .istore 5, 2), (497, .aload_n 2, 1), (498, .aload_n 0, 1), (499, .iload 4, 2), (501, .iconst 1, 1), (502, .iadd, 1), (503, .iaload, 1), (504, .aload_n 0, 1), (505, .iload 4, 2), (507, .iconst 2, 1), (508, .iadd, 1), (509, .iaload, 1), (510, .aload_n 0, 1), (511, .iload 4, 2), (513, .iconst 3, 1), (514, .iadd, 1), (515, .iaload, 1), (516, .invokevirtual 174, 3), (519, .istore 6, 2), (521, .goto 1362, 3)]
set_option maxRecDepth 100000 in
theorem DL_c5_ok : ∀ q ∈ DL_c5, decode cL_law q.1 = .ok q.2 := ck_list cL_bytes (t := 6) (r := SL_c5) (d := 472) rfl (by decide +kernel) (by decide +kernel)
def DL_c6 : List (Nat × Instr × Nat) := [(524, .aload_n 1, 1), (525, .aload_n 0, 1), (526, .iload 4, 2), (528, .iconst 1, 1), (529, .iadd, 1), (530, .iaload, 1), (531, .aload_n 0, 1), (532, .iload 4, 2), (534, .iconst 2, 1), (535, .iadd, 1), (536, .iaload, 1), (537, .aload_n 0, 1), (538, .iload 4, 2), (540, .iconst 3, 1), (541, .iadd, 1), (542, .iaload, 1), (543, .aload_n 3, 1), (544, .invokestatic 175, 3), (547, .istore 5, 2), (549, .aload_n 2, 1), (550, .aload_n 0, 1), (551, .iload 4, 2), (553, .iconst 1, 1), (554, .iadd, 1), (555, .iaload, 1), (556, .aload_n 0, 1), (557, .iload 4, 2), (559, .iconst 2, 1), (560, .iadd, 1), (561, .iaload, 1), (562, .aload_n 0, 1), (563, .iload 4, 2), (565, .iconst 3, 1), (566, .iadd, 1), (567, .iaload, 1), (568, .invokevirtual 177, 3), (571, .istore 6, 2), (573, .goto 1310, 3)]
set_option maxRecDepth 100000 in
theorem DL_c6_ok : ∀ q ∈ DL_c6, decode cL_law q.1 = .ok q.2 := ck_list cL_bytes (t := 7) (r := SL_c6) (d := 524) rfl (by decide +kernel) (by decide +kernel)
def DL_c7 : List (Nat × Instr × Nat) := [(576, .aload_n 1, 1), (577, .aload_n 0, 1), (578, .iload 4, 2), (580, .iconst 1, 1), (581, .iadd, 1), (582, .iaload, 1), (583, .aload_n 0, 1), (584, .iload 4, 2), (586, .iconst 2, 1), (587, .iadd, 1), (588, .iaload, 1), (589, .aload_n 3, 1), (590, .invokestatic 178, 3), (593, .istore 5, 2), (595, .aload_n 2, 1), (596, .aload_n 0, 1), (597, .iload 4, 2), (599, .iconst 1, 1), (600, .iadd, 1), (601, .iaload, 1), (602, .aload_n 0, 1), (603, .iload 4, 2), (605, .iconst 2, 1), (606, .iadd, 1), (607, .iaload, 1), (608, .invokevirtual 180, 3), (611, .istore 6, 2), (613, .goto 1270, 3)]
set_option maxRecDepth 100000 in
theorem DL_c7_ok : ∀ q ∈ DL_c7, decode cL_law q.1 = .ok q.2 := ck_list cL_bytes (t := 8) (r := SL_c7) (d := 576) rfl (by decide +kernel) (by decide +kernel)
def DL_c8 : List (Nat × Instr × Nat) := [(616, .aload_n 1, 1), (617, .aload_n 0, 1), (618, .iload 4, 2), (620, .iconst 1, 1), (621, .iadd, 1), (622, .iaload, 1), (623, .aload_n 3, 1), (624, .invokestatic 181, 3), (627, .istore 5, 2), (629, .aload_n 2, 1), (630, .aload_n 0, 1), (631, .iload 4, 2), (633, .iconst 1, 1), (634, .iadd, 1), (635, .iaload, 1), (636, .invokevirtual 184, 3), (639, .istore 6, 2), (641, .goto 1242, 3)]
set_option maxRecDepth 100000 in
theorem DL_c8_ok : ∀ q ∈ DL_c8, decode cL_law q.1 = .ok q.2 := ck_list cL_bytes (t := 9) (r := SL_c8) (d := 616) rfl (by decide +kernel) (by decide +kernel)
def DL_c9 : List (Nat × Instr × Nat) := [(644, .aload_n 1, 1), (645, .aload_n 0, 1), (646, .iload 4, 2), (648, .iconst 1, 1), (649, .iadd, 1), (650, .iaload, 1), (651, .aload_n 0, 1), (652, .iload 4, 2), (654, .iconst 2, 1), (655, .iadd, 1), (656, .iaload, 1), (657, .aload_n 0, 1), (658, .iload 4, 2), (660, .iconst 3, 1), (661, .iadd, 1), (662, .iaload, 1), (663, .aload_n 3, 1), (664, .invokestatic 185, 3), (667, .istore 5, 2), (669, .aload_n 2, 1), (670, .aload_n 0, 1), (671, .iload 4, 2), (673, .iconst 1, 1), (674, .iadd, 1), (675, .iaload, 1), (676, .aload_n 0, 1), (677, .iload 4, 2), (679, .iconst 2, 1), (680, .iadd, 1), (681, .iaload, 1), (682, .aload_n 0, 1), (683, .iload 4, 2), (685, .iconst 3, 1), (686, .iadd, 1), (687, .iaload, 1), (688, .invokevirtual 187, 3), (691, .istore 6, 2), (693, .goto 1190, 3)]
set_option maxRecDepth 100000 in
theorem DL_c9_ok : ∀ q ∈ DL_c9, decode cL_law q.1 = .ok q.2 := ck_list cL_bytes (t := 10) (r := SL_c9) (d := 644) rfl (by decide +kernel) (by decide +kernel)
def DL_c10 : List (Nat × Instr × Nat) := [(696, .aload_n 1, 1), (697, .aload_n 0, 1), (698, .iload 4, 2), (700, .iconst 1, 1), (701, .iadd, 1), (702, .iaload, 1), (703, .aload_n 0, 1), (704, .iload 4, 2), (706, .iconst 2, 1), (707, .iadd, 1), (708, .iaload, 1), (709, .aload_n 0, 1), (710, .iload 4, 2), (712, .iconst 3, 1), (713, .iadd, 1), (714, .iaload, 1), (715, .aload_n 3, 1), (716, .invokestatic 188, 3), (719, .istore 5, 2), (721, .aload_n 2, 1), (722, .aload_n 0, 1), (723, .iload 4, 2), (725, .iconst 1, 1), (726, .iadd, 1), (727, .iaload, 1), (728, .aload_n 0, 1), (729, .iload 4, 2), (731, .iconst 2, 1), (732, .iadd, 1), (733, .iaload, 1), (734, .aload_n 0, 1), (735, .iload 4, 2), (737, .iconst 3, 1), (738, .iadd, 1), (739, .iaload, 1), (740, .invokevirtual 190, 3), (743, .istore 6, 2), (745, .goto 1138, 3)]
set_option maxRecDepth 100000 in
theorem DL_c10_ok : ∀ q ∈ DL_c10, decode cL_law q.1 = .ok q.2 := ck_list cL_bytes (t := 11) (r := SL_c10) (d := 696) rfl (by decide +kernel) (by decide +kernel)
def DL_c11 : List (Nat × Instr × Nat) := [(748, .aload_n 1, 1), (749, .aload_n 0, 1), (750, .iload 4, 2), (752, .iconst 1, 1), (753, .iadd, 1), (754, .iaload, 1), (755, .aload_n 3, 1), (756, .invokestatic 191, 3), (759, .istore 5, 2), (761, .aload_n 2, 1), (762, .aload_n 0, 1), (763, .iload 4, 2), (765, .iconst 1, 1), (766, .iadd, 1), (767, .iaload, 1), (768, .invokevirtual 193, 3), (771, .istore 6, 2), (773, .goto 1110, 3)]
set_option maxRecDepth 100000 in
theorem DL_c11_ok : ∀ q ∈ DL_c11, decode cL_law q.1 = .ok q.2 := ck_list cL_bytes (t := 12) (r := SL_c11) (d := 748) rfl (by decide +kernel) (by decide +kernel)
def DL_c12 : List (Nat × Instr × Nat) := [(776, .aload_n 1, 1), (777, .aload_n 0, 1), (778, .iload 4, 2), (780, .iconst 1, 1), (781, .iadd, 1), (782, .iaload, 1), (783, .aload_n 0, 1), (784, .iload 4, 2), (786, .iconst 2, 1), (787, .iadd, 1), (788, .iaload, 1), (789, .aload_n 0, 1), (790, .iload 4, 2), (792, .iconst 3, 1), (793, .iadd, 1), (794, .iaload, 1), (795, .aload_n 3, 1), (796, .invokestatic 194, 3), (799, .istore 5, 2), (801, .aload_n 2, 1), (802, .aload_n 0, 1), (803, .iload 4, 2), (805, .iconst 1, 1), (806, .iadd, 1), (807, .iaload, 1), (808, .aload_n 0, 1), (809, .iload 4, 2), (811, .iconst 2, 1), (812, .iadd, 1), (813, .iaload, 1), (814, .aload_n 0, 1), (815, .iload 4, 2), (817, .iconst 3, 1), (818, .iadd, 1), (819, .iaload, 1), (820, .invokevirtual 196, 3), (823, .istore 6, 2), (825, .goto 1058, 3)]
set_option maxRecDepth 100000 in
theorem DL_c12_ok : ∀ q ∈ DL_c12, decode cL_law q.1 = .ok q.2 := ck_list cL_bytes (t := 13) (r := SL_c12) (d := 776) rfl (by decide +kernel) (by decide +kernel)
def DL_c13 : List (Nat × Instr × Nat) := [(828, .aload_n 1, 1), (829, .aload_n 0, 1), (830, .iload 4, 2), (832, .iconst 1, 1), (833, .iadd, 1), (834, .iaload, 1), (835, .aload_n 0, 1), (836, .iload 4, 2), (838, .iconst 2, 1), (839, .iadd, 1), (840, .iaload, 1), (841, .aload_n 3, 1), (842, .invokestatic 197, 3), (845, .istore 5, 2), (847, .aload_n 2, 1), (848, .aload_n 0, 1), (849, .iload 4, 2), (851, .iconst 1, 1), (852, .iadd, 1), (853, .iaload, 1), (854, .aload_n 0, 1), (855, .iload 4, 2), (857, .iconst 2, 1), (858, .iadd, 1), (859, .iaload, 1), (860, .invokevirtual 199, 3), (863, .istore 6, 2), (865, .goto 1018, 3)]
set_option maxRecDepth 100000 in
theorem DL_c13_ok : ∀ q ∈ DL_c13, decode cL_law q.1 = .ok q.2 := ck_list cL_bytes (t := 14) (r := SL_c13) (d := 828) rfl (by decide +kernel) (by decide +kernel)
def DL_c14 : List (Nat × Instr × Nat) := [(868, .aload_n 1, 1), (869, .aload_n 0, 1), (870, .iload 4, 2), (872, .iconst 1, 1), (873, .iadd, 1), (874, .iaload, 1), (875, .aload_n 0, 1), (876, .iload 4, 2), (878, .iconst 2, 1), (879, .iadd, 1), (880, .iaload, 1), (881, .aload_n 0, 1), (882, .iload 4, 2), (884, .iconst 3, 1), (885, .iadd, 1), (886, .iaload, 1), (887, .aload_n 3, 1), (888, .invokestatic 200, 3), (891, .istore 5, 2), (893, .aload_n 2, 1), (894, .aload_n 0, 1), (895, .iload 4, 2), (897, .iconst 1, 1), (898, .iadd, 1), (899, .iaload, 1), (900, .aload_n 0, 1), (901, .iload 4, 2), (903, .iconst 2, 1), (904, .iadd, 1), (905, .iaload, 1), (906, .aload_n 0, 1), (907, .iload 4, 2), (909, .iconst 3, 1), (910, .iadd, 1), (911, .iaload, 1), (912, .invokevirtual 202, 3), (915, .istore 6, 2), (917, .goto 966, 3)]
set_option maxRecDepth 100000 in
theorem DL_c14_ok : ∀ q ∈ DL_c14, decode cL_law q.1 = .ok q.2 := ck_list cL_bytes (t := 15) (r := SL_c14) (d := 868) rfl (by decide +kernel) (by decide +kernel)
def DL_c15 : List (Nat × Instr × Nat) := [(920, .aload_n 1, 1), (921, .aload_n 0, 1), (922, .iload 4, 2), (924, .iconst 1, 1), (925, .iadd, 1), (926, .iaload, 1), (927, .aload_n 0, 1), (928, .iload 4, 2), (930, .iconst 2, 1), (931, .iadd, 1), (932, .iaload, 1), (933, .aload_n 0, 1), (934, .iload 4, 2), (936, .iconst 3, 1), (937, .iadd, 1), (938, .iaload, 1), (939, .aload_n 0, 1), (940, .iload 4, 2), (942, .iconst 4, 1), (943, .iadd, 1), (944, .iaload, 1), (945, .aload_n 3, 1), (946, .invokestatic 203, 3), (949, .istore 5, 2), (951, .aload_n 2, 1), (952, .aload_n 0, 1), (953, .iload 4, 2), (955, .iconst 1, 1), (956, .iadd, 1), (957, .iaload, 1), (958, .aload_n 0, 1), (959, .iload 4, 2), (961, .iconst 2, 1), (962, .iadd, 1), (963, .iaload, 1), (964, .aload_n 0, 1), (965, .iload 4, 2), (967, .iconst 3, 1), (968, .iadd, 1), (969, .iaload, 1), (970, .aload_n 0, 1), (971, .iload 4, 2), (973, .iconst 4, 1), (974, .iadd, 1), (975, .iaload, 1), (976, .invokevirtual 206, 3), (979, .istore 6, 2), (981, .goto 902, 3)]
set_option maxRecDepth 100000 in
theorem DL_c15_ok : ∀ q ∈ DL_c15, decode cL_law q.1 = .ok q.2 := ck_list cL_bytes (t := 16) (r := SL_c15) (d := 920) rfl (by decide +kernel) (by decide +kernel)
def DL_c16 : List (Nat × Instr × Nat) := [(984, .aload_n 1, 1), (985, .aload_n 0, 1), (986, .iload 4, 2), (988, .iconst 1, 1), (989, .iadd, 1), (990, .iaload, 1), (991, .aload_n 0, 1), (992, .iload 4, 2), (994, .iconst 2, 1), (995, .iadd, 1), (996, .iaload, 1), (997, .aload_n 0, 1), (998, .iload 4, 2), (1000, .iconst 3, 1), (1001, .iadd, 1), (1002, .iaload, 1), (1003, .aload_n 3, 1), (1004, .invokestatic 207, 3), (1007, .istore 5, 2), (1009, .aload_n 2, 1), (1010, .aload_n 0, 1), (1011, .iload 4, 2), (1013, .iconst 1, 1), (1014, .iadd, 1), (1015, .iaload, 1), (1016, .aload_n 0, 1), (1017, .iload 4, 2), (1019, .iconst 2, 1), (1020, .iadd, 1), (1021, .iaload, 1), (1022, .aload_n 0, 1), (1023, .iload 4, 2), (1025, .iconst 3, 1), (1026, .iadd, 1), (1027, .iaload, 1), (1028, .invokevirtual 209, 3), (1031, .istore 6, 2), (1033, .goto 850, 3)]
set_option maxRecDepth 100000 in
theorem DL_c16_ok : ∀ q ∈ DL_c16, decode cL_law q.1 = .ok q.2 := ck_list cL_bytes (t := 17) (r := SL_c16) (d := 984) rfl (by decide +kernel) (by decide +kernel)
def DL_c17 : List (Nat × Instr × Nat) := [(1036, .aload_n 1, 1), (1037, .aload_n 0, 1), (1038, .iload 4, 2), (1040, .iconst 1, 1), (1041, .iadd, 1), (1042, .iaload, 1), (1043, .aload_n 3, 1), (1044, .invokestatic 210, 3), (1047, .istore 5, 2), (1049, .aload_n 2, 1), (1050, .aload_n 0, 1), (1051, .iload 4, 2), (1053, .iconst 1, 1), (1054, .iadd, 1), (1055, .iaload, 1), (1056, .invokevirtual 212, 3), (1059, .astore 6, 2), (1061, .goto 822, 3)]
set_option maxRecDepth 100000 in
theorem DL_c17_ok : ∀ q ∈ DL_c17, decode cL_law q.1 = .ok q.2 := ck_list cL_bytes (t := 18) (r := SL_c17) (d := 1036) rfl (by decide +kernel) (by decide +kernel)
def DL_c18 : List (Nat × Instr × Nat) := [(1064, .aload_n 1, 1), (1065, .aload_n 0, 1), (1066, .iload 4, 2), (1068, .iconst 1, 1), (1069, .iadd, 1), (1070, .iaload, 1), (1071, .aload_n 3, 1), (1072, .invokestatic 213, 3), (1075, .istore 5, 2), (1077, .aload_n 2, 1), (1078, .aload_n 0, 1), (1079, .iload 4, 2), (1081, .iconst 1, 1), (1082, .iadd, 1), (1083, .iaload, 1), (1084, .invokevirtual 215, 3), (1087, .istore 6, 2), (1089, .goto 794, 3)]
set_option maxRecDepth 100000 in
theorem DL_c18_ok : ∀ q ∈ DL_c18, decode cL_law q.1 = .ok q.2 := ck_list cL_bytes (t := 19) (r := SL_c18) (d := 1064) rfl (by decide +kernel) (by decide +kernel)
def DL_c19 : List (Nat × Instr × Nat) := [(1092, .aload_n 1, 1), (1093, .aload_n 0, 1), (1094, .iload 4, 2), (1096, .iconst 1, 1), (1097, .iadd, 1), (1098, .iaload, 1), (1099, .aload_n 3, 1), (1100, .invokestatic 216, 3), (1103, .istore 5, 2), (1105, .aload_n 2, 1), (1106, .aload_n 0, 1), (1107, .iload 4, 2), (1109, .iconst 1, 1), (1110, .iadd, 1), (1111, .iaload, 1), (1112, .invokevirtual 218, 3), (1115, .istore 6, 2), (1117, .goto 766, 3)]
set_option maxRecDepth 100000 in
theorem DL_c19_ok : ∀ q ∈ DL_c19, decode cL_law q.1 = .ok q.2 := ck_list cL_bytes (t := 20) (r := SL_c19) (d := 1092) rfl (by decide +kernel) (by decide +kernel)
def DL_c20 : List (Nat × Instr × Nat) := [(1120, .aload_n 1, 1), (1121, .aload_n 0, 1), (1122, .iload 4, 2), (1124, .iconst 1, 1), (1125, .iadd, 1), (1126, .iaload, 1), (1127, .aload_n 3, 1), (1128, .invokestatic 219, 3), (1131, .istore 5, 2), (1133, .aload_n 2, 1), (1134, .aload_n 0, 1), (1135, .iload 4, 2), (1137, .iconst 1, 1), (1138, .iadd, 1), (1139, .iaload, 1), (1140, .invokevirtual 221, 3), (1143, .istore 6, 2), (1145, .goto 738, 3)]
set_option maxRecDepth 100000 in
theorem DL_c20_ok : ∀ q ∈ DL_c20, decode cL_law q.1 = .ok q.2 := ck_list cL_bytes (t := 21) (r := SL_c20) (d := 1120) rfl (by decide +kernel) (by decide +kernel)
def DL_c21 : List (Nat × Instr × Nat) := [(1148, .aload_n 1, 1), (1149, .aload_n 0, 1), (1150, .iload 4, 2), (1152, .iconst 1, 1), (1153, .iadd, 1), (1154, .iaload, 1), (1155, .aload_n 0, 1), (1156, .iload 4, 2), (1158, .iconst 2, 1), (1159, .iadd, 1), (1160, .iaload, 1), (1161, .aload_n 3, 1), (1162, .invokestatic 222, 3), (1165, .istore 5, 2), (1167, .aload_n 2, 1), (1168, .aload_n 0, 1), (1169, .iload 4, 2), (1171, .iconst 1, 1), (1172, .iadd, 1), (1173, .iaload, 1), (1174, .aload_n 0, 1), (1175, .iload 4, 2), (1177, .iconst 2, 1), (1178, .iadd, 1), (1179, .iaload, 1), (1180, .invokevirtual 224, 3), (1183, .istore 6, 2), (1185, .goto 698, 3)]
set_option maxRecDepth 100000 in
theorem DL_c21_ok : ∀ q ∈ DL_c21, decode cL_law q.1 = .ok q.2 := ck_list cL_bytes (t := 22) (r := SL_c21) (d := 1148) rfl (by decide +kernel) (by decide +kernel)
def DL_c22 : List (Nat × Instr × Nat) := [(1188, .aload_n 1, 1), (1189, .aload_n 0, 1), (1190, .iload 4, 2), (1192, .iconst 1, 1), (1193, .iadd, 1), (1194, .iaload, 1), (1195, .aload_n 0, 1), (1196, .iload 4, 2), (1198, .iconst 2, 1), (1199, .iadd, 1), (1200, .iaload, 1), (1201, .aload_n 3, 1), (1202, .invokestatic 225, 3), (1205, .istore 5, 2), (1207, .aload_n 2, 1), (1208, .aload_n 0, 1), (1209, .iload 4, 2), (1211, .iconst 1, 1), (1212, .iadd, 1), (1213, .iaload, 1), (1214, .aload_n 0, 1), (1215, .iload 4, 2), (1217, .iconst 2, 1), (1218, .iadd, 1), (1219, .iaload, 1), (1220, .invokevirtual 227, 3), (1223, .istore 6, 2), (1225, .goto 658, 3)]
set_option maxRecDepth 100000 in
theorem DL_c22_ok : ∀ q ∈ DL_c22, decode cL_law q.1 = .ok q.2 := ck_list cL_bytes (t := 23) (r := SL_c22) (d := 1188) rfl (by decide +kernel) (by decide +kernel)
def DL_c23 : List (Nat × Instr × Nat) := [(1228, .aload_n 1, 1), (1229, .aload_n 0, 1), (1230, .iload 4, 2), (1232, .iconst 1, 1), (1233, .iadd, 1), (1234, .iaload, 1), (1235, .aload_n 0, 1), (1236, .iload 4, 2), (1238, .iconst 2, 1), (1239, .iadd, 1), (1240, .iaload, 1), (1241, .aload_n 3, 1), (1242, .invokestatic 228, 3), (1245, .istore 5, 2), (1247, .aload_n 2, 1), (1248, .aload_n 0, 1), (1249, .iload 4, 2), (1251, .iconst 1, 1), (1252, .iadd, 1), (1253, .iaload, 1), (1254, .aload_n 0, 1), (1255, .iload 4, 2), (1257, .iconst 2, 1), (1258, .iadd, 1), (1259, .iaload, 1), (1260, .invokevirtual 230, 3), (1263, .istore 6, 2), (1265, .goto 618, 3)]
set_option maxRecDepth 100000 in
theorem DL_c23_ok : ∀ q ∈ DL_c23, decode cL_law q.1 = .ok q.2 := ck_list cL_bytes (t := 24) (r := SL_c23) (d := 1228) rfl (by decide +kernel) (by decide +kernel)
def DL_c24 : List (Nat × Instr × Nat) := [(1268, .aload_n 1, 1), (1269, .aload_n 0, 1), (1270, .iload 4, 2), (1272, .iconst 1, 1), (1273, .iadd, 1), (1274, .iaload, 1), (1275, .aload_n 3, 1), (1276, .invokestatic 231, 3), (1279, .istore 5, 2), (1281, .aload_n 2, 1), (1282, .aload_n 0, 1), (1283, .iload 4, 2), (1285, .iconst 1, 1), (1286, .iadd, 1), (1287, .iaload, 1), (1288, .invokevirtual 233, 3), (1291, .istore 6, 2), (1293, .goto 590, 3)]
set_option maxRecDepth 100000 in
theorem DL_c24_ok : ∀ q ∈ DL_c24, decode cL_law q.1 = .ok q.2 := ck_list cL_bytes (t := 25) (r := SL_c24) (d := 1268) rfl (by decide +kernel) (by decide +kernel)
def DL_c25 : List (Nat × Instr × Nat) := [(1296, .aload_n 1, 1), (1297, .aload_n 0, 1), (1298, .iload 4, 2), (1300, .iconst 1, 1), (1301, .iadd, 1), (1302, .iaload, 1), (1303, .aload_n 0, 1), (1304, .iload 4, 2), (1306, .iconst 2, 1), (1307, .iadd, 1), (1308, .iaload, 1), (1309, .aload_n 3, 1), (1310, .invokestatic 234, 3), (1313, .istore 5, 2), (1315, .aload_n 2, 1), (1316, .aload_n 0, 1), (1317, .iload 4, 2), (1319, .iconst 1, 1), (1320, .iadd, 1), (1321, .iaload, 1), (1322, .aload_n 0, 1), (1323, .iload 4, 2), (1325, .iconst 2, 1), (1326, .iadd, 1), (1327, .iaload, 1), (1328, .invokevirtual 236, 3), (1331, .istore 6, 2), (1333, .goto 550, 3)]
set_option maxRecDepth 100000 in
theorem DL_c25_ok : ∀ q ∈ DL_c25, decode cL_law q.1 = .ok q.2 := ck_list cL_bytes (t := 26) (r := SL_c25) (d := 1296) rfl (by decide +kernel) (by decide +kernel)
def DL_c26 : List (Nat × Instr × Nat) := [(1336, .aload_n 1, 1), (1337, .aload_n 0, 1), (1338, .iload 4, 2), (1340, .iconst 1, 1), (1341, .iadd, 1), (1342, .iaload, 1), (1343, .aload_n 0, 1), (1344, .iload 4, 2), (1346, .iconst 2, 1), (1347, .iadd, 1), (1348, .iaload, 1), (1349, .aload_n 3, 1), (1350, .invokestatic 237, 3), (1353, .istore 5, 2), (1355, .aload_n 2, 1), (1356, .aload_n 0, 1), (1357, .iload 4, 2), (1359, .iconst 1, 1), (1360, .iadd, 1), (1361, .iaload, 1), (1362, .aload_n 0, 1), (1363, .iload 4, 2), (1365, .iconst 2, 1), (1366, .iadd, 1), (1367, .iaload, 1), (1368, .invokevirtual 239, 3), (1371, .istore 6, 2), (1373, .goto 510, 3)]
set_option maxRecDepth 100000 in
theorem DL_c26_ok : ∀ q ∈ DL_c26, decode cL_law q.1 = .ok q.2 := ck_list cL_bytes (t := 27) (r := SL_c26) (d := 1336) rfl (by decide +kernel) (by decide +kernel)
def DL_c27 : List (Nat × Instr × Nat) := [(1376, .aload_n 1, 1), (1377, .aload_n 0, 1), (1378, .iload 4, 2), (1380, .iconst 1, 1), (1381, .iadd, 1), (1382, .iaload, 1), (1383, .aload_n 0, 1), (1384, .iload 4, 2), (1386, .iconst 2, 1), (1387, .iadd, 1), (1388, .iaload, 1), (1389, .aload_n 0, 1), (1390, .iload 4, 2), (1392, .iconst 3, 1), (1393, .iadd, 1), (1394, .iaload, 1), (1395, .aload_n 3, 1), (1396, .invokestatic 240, 3), (1399, .istore 5, 2), (1401, .aload_n 2, 1), (1402, .aload_n 0, 1), (1403, .iload 4, 2), (1405, .iconst 1, 1), (1406, .iadd, 1), (1407, .iaload, 1), (1408, .aload_n 0, 1), (1409, .iload 4, 2), (1411, .iconst 2, 1), (1412, .iadd, 1), (1413, .iaload, 1), (1414, .aload_n 0, 1), (1415, .iload 4, 2), (1417, .iconst 3, 1), (1418, .iadd, 1), (1419, .iaload, 1), (1420, .invokevirtual 242, 3), (1423, .istore 6, 2), (1425, .goto 458, 3)]
set_option maxRecDepth 100000 in
theorem DL_c27_ok : ∀ q ∈ DL_c27, decode cL_law q.1 = .ok q.2 := ck_list cL_bytes (t := 28) (r := SL_c27) (d := 1376) rfl (by decide +kernel) (by decide +kernel)
def DL_c28 : List (Nat × Instr × Nat) := [(1428, .aload_n 1, 1), (1429, .aload_n 0, 1), (1430, .iload 4, 2), (1432, .iconst 1, 1), (1433, .iadd, 1), (1434, .iaload, 1), (1435, .aload_n 0, 1), (1436, .iload 4, 2), (1438, .iconst 2, 1), (1439, .iadd, 1), (1440, .iaload, 1), (1441, .aload_n 0, 1), (1442, .iload 4, 2), (1444, .iconst 3, 1), (1445, .iadd, 1), (1446, .iaload, 1), (1447, .aload_n 3, 1), (1448, .invokestatic 243, 3), (1451, .istore 5, 2), (1453, .aload_n 2, 1), (1454, .aload_n 0, 1), (1455, .iload 4, 2), (1457, .iconst 1, 1), (1458, .iadd, 1), (1459, .iaload, 1), (1460, .aload_n 0, 1), (1461, .iload 4, 2), (1463, .iconst 2, 1), (1464, .iadd, 1), (1465, .iaload, 1), (1466, .aload_n 0, 1), (1467, .iload 4, 2), (1469, .iconst 3, 1), (1470, .iadd, 1), (1471, .iaload, 1), (1472, .invokevirtual 245, 3), (1475, .istore 6, 2), (1477, .goto 406, 3)]
set_option maxRecDepth 100000 in
theorem DL_c28_ok : ∀ q ∈ DL_c28, decode cL_law q.1 = .ok q.2 := ck_list cL_bytes (t := 29) (r := SL_c28) (d := 1428) rfl (by decide +kernel) (by decide +kernel)
def DL_c29 : List (Nat × Instr × Nat) := [(1480, .aload_n 1, 1), (1481, .aload_n 0, 1), (1482, .iload 4, 2), (1484, .iconst 1, 1), (1485, .iadd, 1), (1486, .iaload, 1), (1487, .aload_n 0, 1), (1488, .iload 4, 2), (1490, .iconst 2, 1), (1491, .iadd, 1), (1492, .iaload, 1), (1493, .aload_n 3, 1), (1494, .invokestatic 246, 3), (1497, .istore 5, 2), (1499, .aload_n 2, 1), (1500, .aload_n 0, 1), (1501, .iload 4, 2), (1503, .iconst 1, 1), (1504, .iadd, 1), (1505, .iaload, 1), (1506, .aload_n 0, 1), (1507, .iload 4, 2), (1509, .iconst 2, 1), (1510, .iadd, 1), (1511, .iaload, 1), (1512, .invokevirtual 248, 3), (1515, .istore 6, 2), (1517, .goto 366, 3)]
set_option maxRecDepth 100000 in
theorem DL_c29_ok : ∀ q ∈ DL_c29, decode cL_law q.1 = .ok q.2 := ck_list cL_bytes (t := 30) (r := SL_c29) (d := 1480) rfl (by decide +kernel) (by decide +kernel)
def DL_c30 : List (Nat × Instr × Nat) := [(1520, .aload_n 1, 1), (1521, .aload_n 0, 1), (1522, .iload 4, 2), (1524, .iconst 1, 1), (1525, .iadd, 1), (1526, .iaload, 1), (1527, .aload_n 0, 1), (1528, .iload 4, 2), (1530, .iconst 2, 1), (1531, .iadd, 1), (1532, .iaload, 1), (1533, .aload_n 3, 1), (1534, .invokestatic 249, 3), (1537, .istore 5, 2), (1539, .aload_n 2, 1), (1540, .aload_n 0, 1), (1541, .iload 4, 2), (1543, .iconst 1, 1), (1544, .iadd, 1), (1545, .iaload, 1), (1546, .aload_n 0, 1), (1547, .iload 4, 2), (1549, .iconst 2, 1), (1550, .iadd, 1), (1551, .iaload, 1), (1552, .invokevirtual 251, 3), (1555, .istore 6, 2), (1557, .goto 326, 3)]
set_option maxRecDepth 100000 in
theorem DL_c30_ok : ∀ q ∈ DL_c30, decode cL_law q.1 = .ok q.2 := ck_list cL_bytes (t := 31) (r := SL_c30) (d := 1520) rfl (by decide +kernel) (by decide +kernel)
def DL_c31 : List (Nat × Instr × Nat) := [(1560, .aload_n 1, 1), (1561, .aload_n 0, 1), (1562, .iload 4, 2), (1564, .iconst 1, 1), (1565, .iadd, 1), (1566, .iaload, 1), (1567, .aload_n 0, 1), (1568, .iload 4, 2), (1570, .iconst 2, 1), (1571, .iadd, 1), (1572, .iaload, 1), (1573, .aload_n 3, 1), (1574, .invokestatic 252, 3), (1577, .istore 5, 2), (1579, .aload_n 2, 1), (1580, .aload_n 0, 1), (1581, .iload 4, 2), (1583, .iconst 1, 1), (1584, .iadd, 1), (1585, .iaload, 1), (1586, .aload_n 0, 1), (1587, .iload 4, 2), (1589, .iconst 2, 1), (1590, .iadd, 1), (1591, .iaload, 1), (1592, .invokevirtual 254, 3), (1595, .astore 6, 2), (1597, .goto 286, 3)]
set_option maxRecDepth 100000 in
theorem DL_c31_ok : ∀ q ∈ DL_c31, decode cL_law q.1 = .ok q.2 := ck_list cL_bytes (t := 32) (r := SL_c31) (d := 1560) rfl (by decide +kernel) (by decide +kernel)
def DL_c32 : List (Nat × Instr × Nat) := [(1600, .aload_n 1, 1), (1601, .aload_n 0, 1), (1602, .iload 4, 2), (1604, .iconst 1, 1), (1605, .iadd, 1), (1606, .iaload, 1), (1607, .aload_n 3, 1), (1608, .invokestatic 255, 3), (1611, .istore 5, 2), (1613, .aload_n 2, 1), (1614, .aload_n 0, 1), (1615, .iload 4, 2), (1617, .iconst 1, 1), (1618, .iadd, 1), (1619, .iaload, 1), (1620, .invokevirtual 257, 3), (1623, .istore 6, 2), (1625, .goto 258, 3)]
set_option maxRecDepth 100000 in
theorem DL_c32_ok : ∀ q ∈ DL_c32, decode cL_law q.1 = .ok q.2 := ck_list cL_bytes (t := 33) (r := SL_c32) (d := 1600) rfl (by decide +kernel) (by decide +kernel)
def DL_c33 : List (Nat × Instr × Nat) := [(1628, .aload_n 1, 1), (1629, .aload_n 0, 1), (1630, .iload 4, 2), (1632, .iconst 1, 1), (1633, .iadd, 1), (1634, .iaload, 1), (1635, .aload_n 0, 1), (1636, .iload 4, 2), (1638, .iconst 2, 1), (1639, .iadd, 1), (1640, .iaload, 1), (1641, .aload_n 0, 1), (1642, .iload 4, 2), (1644, .iconst 3, 1), (1645, .iadd, 1), (1646, .iaload, 1), (1647, .aload_n 3, 1), (1648, .invokestatic 258, 3), (1651, .istore 5, 2), (1653, .aload_n 2, 1), (1654, .aload_n 0, 1), (1655, .iload 4, 2), (1657, .iconst 1, 1), (1658, .iadd, 1), (1659, .iaload, 1), (1660, .aload_n 0, 1), (1661, .iload 4, 2), (1663, .iconst 2, 1), (1664, .iadd, 1), (1665, .iaload, 1), (1666, .aload_n 0, 1), (1667, .iload 4, 2), (1669, .iconst 3, 1), (1670, .iadd, 1), (1671, .iaload, 1), (1672, .invokevirtual 260, 3), (1675, .istore 6, 2), (1677, .goto 206, 3)]
set_option maxRecDepth 100000 in
theorem DL_c33_ok : ∀ q ∈ DL_c33, decode cL_law q.1 = .ok q.2 := ck_list cL_bytes (t := 34) (r := SL_c33) (d := 1628) rfl (by decide +kernel) (by decide +kernel)
def DL_c34 : List (Nat × Instr × Nat) := [(1680, .aload_n 1, 1), (1681, .aload_n 0, 1), (1682, .iload 4, 2), (1684, .iconst 1, 1), (1685, .iadd, 1), (1686, .iaload, 1), (1687, .aload_n 0, 1), (1688, .iload 4, 2), (1690, .iconst 2, 1), (1691, .iadd, 1), (1692, .iaload, 1), (1693, .aload_n 3, 1), (1694, .invokestatic 261, 3), (1697, .istore 5, 2), (1699, .aload_n 2, 1), (1700, .aload_n 0, 1), (1701, .iload 4, 2), (1703, .iconst 1, 1), (1704, .iadd, 1), (1705, .iaload, 1), (1706, .aload_n 0, 1), (1707, .iload 4, 2), (1709, .iconst 2, 1), (1710, .iadd, 1), (1711, .iaload, 1), (1712, .invokevirtual 263, 3), (1715, .istore 6, 2), (1717, .goto 166, 3)]
set_option maxRecDepth 100000 in
theorem DL_c34_ok : ∀ q ∈ DL_c34, decode cL_law q.1 = .ok q.2 := ck_list cL_bytes (t := 35) (r := SL_c34) (d := 1680) rfl (by decide +kernel) (by decide +kernel)
def DL_c35 : List (Nat × Instr × Nat) := [(1720, .aload_n 1, 1), (1721, .aload_n 0, 1), (1722, .iload 4, 2), (1724, .iconst 1, 1), (1725, .iadd, 1), (1726, .iaload, 1), (1727, .aload_n 0, 1), (1728, .iload 4, 2), (1730, .iconst 2, 1), (1731, .iadd, 1), (1732, .iaload, 1), (1733, .aload_n 3, 1), (1734, .invokestatic 264, 3), (1737, .istore 5, 2), (1739, .aload_n 2, 1), (1740, .aload_n 0, 1), (1741, .iload 4, 2), (1743, .iconst 1, 1), (1744, .iadd, 1), (1745, .iaload, 1), (1746, .aload_n 0, 1), (1747, .iload 4, 2), (1749, .iconst 2, 1), (1750, .iadd, 1), (1751, .iaload, 1), (1752, .invokevirtual 266, 3), (1755, .istore 6, 2), (1757, .goto 126, 3)]
set_option maxRecDepth 100000 in
theorem DL_c35_ok : ∀ q ∈ DL_c35, decode cL_law q.1 = .ok q.2 := ck_list cL_bytes (t := 36) (r := SL_c35) (d := 1720) rfl (by decide +kernel) (by decide +kernel)
def DL_c36 : List (Nat × Instr × Nat) := [(1760, .aload_n 1, 1), (1761, .aload_n 0, 1), (1762, .iload 4, 2), (1764, .iconst 1, 1), (1765, .iadd, 1), (1766, .iaload, 1), (1767, .aload_n 0, 1), (1768, .iload 4, 2), (1770, .iconst 2, 1), (1771, .iadd, 1), (1772, .iaload, 1), (1773, .ifCond .eq 7, 3), (1776, .iconst 1, 1), (1777, .goto 4, 3), (1780, .iconst 0, 1), (1781, .aload_n 3, 1), (1782, .invokestatic 267, 3), (1785, .istore 5, 2), (1787, .aload_n 2, 1), (1788, .aload_n 0, 1), (1789, .iload 4, 2), (1791, .iconst 1, 1), (1792, .iadd, 1), (1793, .iaload, 1), (1794, .aload_n 0, 1), (1795, .iload 4, 2), (1797, .iconst 2, 1), (1798, .iadd, 1), (1799, .iaload, 1), (1800, .ifCond .eq 7, 3), (1803, .iconst 1, 1), (1804, .goto 4, 3), (1807, .iconst 0, 1), (1808, .invokevirtual 270, 3), (1811, .istore 6, 2), (1813, .goto 70, 3)]
set_option maxRecDepth 100000 in
theorem DL_c36_ok : ∀ q ∈ DL_c36, decode cL_law q.1 = .ok q.2 := ck_list cL_bytes (t := 37) (r := SL_c36) (d := 1760) rfl (by decide +kernel) (by decide +kernel)
def DL_c37 : List (Nat × Instr × Nat) := [(1816, .aload_n 1, 1), (1817, .aload_n 0, 1), (1818, .iload 4, 2), (1820, .iconst 1, 1), (1821, .iadd, 1), (1822, .iaload, 1), (1823, .aload_n 3, 1), (1824, .invokestatic 271, 3), (1827, .istore 5, 2), (1829, .aload_n 2, 1), (1830, .aload_n 0, 1), (1831, .iload 4, 2), (1833, .iconst 1, 1), (1834, .iadd, 1), (1835, .iaload, 1), (1836, .invokevirtual 273, 3), (1839, .istore 6, 2), (1841, .goto 42, 3)]
set_option maxRecDepth 100000 in
theorem DL_c37_ok : ∀ q ∈ DL_c37, decode cL_law q.1 = .ok q.2 := ck_list cL_bytes (t := 38) (r := SL_c37) (d := 1816) rfl (by decide +kernel) (by decide +kernel)
def DL_c38 : List (Nat × Instr × Nat) := [(1844, .aload_n 1, 1), (1845, .invokevirtual 274, 3), (1848, .pop, 1), (1849, .aload_n 2, 1), (1850, .invokevirtual 278, 3), (1853, .pop, 1), (1854, .goto 29, 3)]
set_option maxRecDepth 100000 in
theorem DL_c38_ok : ∀ q ∈ DL_c38, decode cL_law q.1 = .ok q.2 := ck_list cL_bytes (t := 39) (r := SL_c38) (d := 1844) rfl (by decide +kernel) (by decide +kernel)
def DL_c39 : List (Nat × Instr × Nat) := [(1857, .aload_n 1, 1), (1858, .invokevirtual 279, 3), (1861, .aload_n 2, 1), (1862, .invokevirtual 283, 3), (1865, .if_icmp .eq 18, 3), (1868, .iconst 0, 1), (1869, .ireturn, 1)]
set_option maxRecDepth 100000 in
theorem DL_c39_ok : ∀ q ∈ DL_c39, decode cL_law q.1 = .ok q.2 := ck_list cL_bytes (t := 40) (r := SL_c39) (d := 1857) rfl (by decide +kernel) (by decide +kernel)
def DL_c40 : List (Nat × Instr × Nat) := [(1870, .aload_n 1, 1), (1871, .invokevirtual 284, 3), (1874, .pop2, 1), (1875, .aload_n 2, 1), (1876, .invokevirtual 288, 3), (1879, .pop2, 1), (1880, .goto 3, 3)]
set_option maxRecDepth 100000 in
theorem DL_c40_ok : ∀ q ∈ DL_c40, decode cL_law q.1 = .ok q.2 := ck_list cL_bytes (t := 41) (r := SL_c40) (d := 1870) rfl (by decide +kernel) (by decide +kernel)
def DL_z : List (Nat × Instr × Nat) := [(1883, .iinc 4 6, 3), (1886, .goto (-1859), 3), (1889, .iconst 1, 1), (1890, .ireturn, 1)]
set_option maxRecDepth 100000 in
theorem DL_z_ok : ∀ q ∈ DL_z, decode cL_law q.1 = .ok q.2 := ck_list cL_bytes (t := 42) (r := SL_z) (d := 1883) rfl (by decide +kernel) (by decide +kernel)
def DX7_init : List (Nat × Instr × Nat) := [(0, .aload_n 0, 1), (1, .invokespecial 1, 3), (4, .return_, 1)]
set_option maxRecDepth 100000 in
theorem DX7_init_ok : ∀ q ∈ DX7_init, decode cX7_init q.1 = .ok q.2 := ck_ok (by decide +kernel)
end Ug01codeL
