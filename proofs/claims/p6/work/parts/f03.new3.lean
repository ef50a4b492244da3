/-! a new object of the class, strongly (printed by wip/p20/genN3.py) -/
def OB (ex : Nat → Prop) (h : AH) (L : List (Nat × AC)) : Prop := ∀ x ∈ L, ¬ ex x.1 ∧ h x.1 = some x.2
def AL (ex : Nat → Prop) (h : AH) (L : List (Nat × Nat × List T4)) : Prop := ∀ x ∈ L, Tn8 8 x.2.2 ∧ ¬ ex x.1 ∧ ¬ ex x.2.1 ∧ h x.1 = some (2, [.ref x.2.1]) ∧ h x.2.1 = some (103, (x.2.2.map (fun t => t.1)).map Value.ref)
section OBs
variable {ex : Nat → Prop} {h h1 : AH} {L L2 : List (Nat × AC)} {N N2 : List (Nat × Nat × List T4)} {ts : List T4} {rs : List (Nat × Nat)}
theorem OB.nil : OB ex h [] := fun x hx => (by cases hx)
theorem OB.kl (B : OB ex h L) (K : KL ex h h1 ts rs) : OB ex h1 L := fun x hx => ⟨(B x hx).1, K.1 _ _ (B x hx).1 (B x hx).2⟩
theorem OB.set (B : OB ex h L) {a : Nat} (ha : ex a) (c : AC) : OB ex (hup h a c) L := fun x hx => ⟨(B x hx).1, by rw [hup_ne _ _ (fun z => (B x hx).1 (by rw [z]; exact ha))]; exact (B x hx).2⟩
theorem OB.app (B : OB ex h L) (B2 : OB ex h L2) : OB ex h (L ++ L2) := fun x hx => (List.mem_append.mp hx).elim (B x) (B2 x)
theorem OB.one {a : Nat} {c : AC} (ha : ¬ ex a) (e : h a = some c) : OB ex h [(a, c)] := fun x hx => by rw [List.mem_singleton.mp hx]; exact ⟨ha, e⟩
theorem AL.nil : AL ex h [] := fun x hx => (by cases hx)
theorem AL.kl (B : AL ex h N) (K : KL ex h h1 ts rs) : AL ex h1 N := fun x hx => by
  obtain ⟨b1, b2, b3, b4, b5⟩ := B x hx
  exact ⟨b1, b2, b3, K.1 _ _ b2 b4, K.1 _ _ b3 b5⟩
theorem AL.set (B : AL ex h N) {a : Nat} (ha : ex a) (c : AC) : AL ex (hup h a c) N := fun x hx => by
  obtain ⟨b1, b2, b3, b4, b5⟩ := B x hx
  exact ⟨b1, b2, b3, by rw [hup_ne _ _ (fun z => b2 (by rw [z]; exact ha))]; exact b4, by rw [hup_ne _ _ (fun z => b3 (by rw [z]; exact ha))]; exact b5⟩
theorem AL.app (B : AL ex h N) (B2 : AL ex h N2) : AL ex h (N ++ N2) := fun x hx => (List.mem_append.mp hx).elim (B x) (B2 x)
theorem AL.one {u ar : Nat} {t : List T4} (ht : Tn8 8 t) (hu : ¬ ex u) (ha : ¬ ex ar) (e1 : h u = some (2, [.ref ar])) (e2 : h ar = some (103, (t.map (fun t => t.1)).map Value.ref)) : AL ex h [(u, ar, t)] := fun x hx => by rw [List.mem_singleton.mp hx]; exact ⟨ht, hu, ha, e1, e2⟩
end OBs
abbrev ex3 (o S A : Nat) : Nat → Prop := fun a => (a = o ∨ a = S) ∨ a = A
section F03
variable {la : Launch} {D : va_G} {cA : Nat → ClassId} {B0 pa : Nat}
set_option maxHeartbeats 64000000 in
theorem n6_init (h : AH) {o : Nat} (ho : h o = some (8, [.null, .null, .int 0, .int 0, .int 0, .null, .null, .null, .null, .null, .null, .null, .null, .null])) : CT la D cA B0 pa yX6_init cX6_init 2 none (rmD 5 140 2500) [.ref o] h (fun v h' => v = none ∧ ∃ (S A u1 u2 u3 u4 u5 u6 u7 u8 u9 q1 q2 q3 q4 ar5 ar6 b7 c7 r7 p7 d7 e7 b8 c8 r8 s8 f8 p8 d8 e8 p9 d9 e9 : Nat) (t5 t6 tS : List T4) (N : List (Nat × Nat × List T4)), h' o = some (8, [.ref S, .ref A, .int 0, .int 0, .int 0, .ref u1, .ref u2, .ref u3, .ref u4, .ref u5, .ref u6, .ref u7, .ref u8, .ref u9]) ∧ h' S = some (103, (tS.map (fun t => t.1)).map Value.ref) ∧ h' A = some (104, (N.map (fun x => x.1)).map Value.ref) ∧ Tn8 6 tS ∧ N.length = 3 ∧ OB (fun a => a = o) h' ((((((((([] ++ []) ++ []) ++ []) ++ []) ++ []) ++ []) ++ [(u7, (6, [.ref b7, .ref r7, .ref p7, .int 0, .int 0])), (p7, (4, [.ref d7, .ref e7, vI 0]))]) ++ [(u8, (3, [.ref b8, .ref r8, .ref s8, .ref f8, .ref p8])), (p8, (4, [.ref d8, .ref e8, vI 0]))]) ++ [(u9, (5, [.ref p9])), (p9, (4, [.ref d9, .ref e9, vI 0]))]) ∧ AL (fun a => a = o) h' (((((((((([] ++ []) ++ []) ++ []) ++ []) ++ [(u5, ar5, t5)]) ++ [(u6, ar6, t6)]) ++ []) ++ []) ++ []) ++ N) ∧ KL (fun a => a = o) h h' ((((((((((([] ++ [(u1, q1, 16, ([], false))]) ++ [(u2, q2, 16, ([], false))]) ++ [(u3, q3, 256, ([], false))]) ++ [(u4, q4, 256, ([], false))]) ++ t5) ++ t6) ++ [(b7, c7, 32, ([], false))]) ++ [(b8, c8, 32, ([], false))]) ++ []) ++ tS) ++ N.flatMap (fun x => x.2.2)) ((((((((([] ++ []) ++ []) ++ []) ++ []) ++ []) ++ []) ++ [(r7, 8), (d7, 128), (e7, 128)]) ++ [(r8, 32), (s8, 32), (f8, 8), (d8, 128), (e8, 128)]) ++ [(d9, 128), (e9, 128)])) := by
  refine CT_of (by decide +kernel) (Nat.le_of_ble_eq_true rfl) ?_
  intro p e s m args below meth c X E hr hlk hnm
  have dk : ∀ {pc : Nat} {q : Instr × Nat}, lkd DX6_init pc = some q → decode cX6_init pc = .ok q := lkd_ok DX6_init_ok
  refine fst1_ok X (dk rfl) rfl ?_
  refine obj_ok X ml6_obj (dk rfl) (Nat.le_of_ble_eq_true rfl) (Nat.le_of_ble_eq_true rfl) (Nat.le_of_ble_eq_true rfl) ?_
  iterate 2 refine fst1_ok X (dk rfl) rfl ?_
  rw [show (Int8.ofInt 6).toInt32 = nI 6 by decide +kernel]
  refine newR_ok (N := 6) (kd := 103) X E (by decide) clX6_9 (by decide) (dk rfl) (Nat.le_of_ble_eq_true rfl) (Nat.le_of_ble_eq_true rfl) (fun S hS hBS => ?_)
  have hoS : o ≠ S := fun z => by rw [z, hS] at ho; cases ho
  refine putf_ok X flX6_11 ftX6_0 (Or.inr ⟨by rw [hnm]; rfl, RX6, TX6, 14, rfl, rfl⟩) rfl rfl (dk rfl) (by rw [hup_ne _ _ hoS]; exact ho) (Nat.le_of_ble_eq_true rfl) ?_
  have oa1 : hup (hup h S (103, List.replicate 6 Value.null)) o (8, ([.null, .null, .int 0, .int 0, .int 0, .null, .null, .null, .null, .null, .null, .null, .null, .null] : List Value).set 0 (.ref S)) o = some (8, [.ref S, .null, .int 0, .int 0, .int 0, .null, .null, .null, .null, .null, .null, .null, .null, .null]) := hup_self _ _ _
  have hS1 : hup (hup h S (103, List.replicate 6 Value.null)) o (8, ([.null, .null, .int 0, .int 0, .int 0, .null, .null, .null, .null, .null, .null, .null, .null, .null] : List Value).set 0 (.ref S)) S = some (103, filR [] 6) := by rw [hup_ne _ _ hoS.symm, hup_self, filR_0]
  have K00 : ∀ A : Nat, KL (ex3 o S A) h (hup (hup h S (103, List.replicate 6 Value.null)) o (8, ([.null, .null, .int 0, .int 0, .int 0, .null, .null, .null, .null, .null, .null, .null, .null, .null] : List Value).set 0 (.ref S))) [] [] := fun A => ((KL.rf _ h).set (Or.inl (Or.inr rfl)) _).set (Or.inl (Or.inl rfl)) _
  have hn1 : ∀ a : Nat, hup (hup h S (103, List.replicate 6 Value.null)) o (8, ([.null, .null, .int 0, .int 0, .int 0, .null, .null, .null, .null, .null, .null, .null, .null, .null] : List Value).set 0 (.ref S)) a = none → h a = none := fun a z => by
    have y1 : a ≠ o := fun y => by rw [y, hup_self] at z; cases z
    have y2 : a ≠ S := fun y => by rw [y, hup_ne _ _ hoS.symm, hup_self] at z; cases z
    rw [hup_ne _ _ y1, hup_ne _ _ y2] at z
    exact z
  generalize hup (hup h S (103, List.replicate 6 Value.null)) o (8, ([.null, .null, .int 0, .int 0, .int 0, .null, .null, .null, .null, .null, .null, .null, .null, .null] : List Value).set 0 (.ref S)) = h1 at oa1 hS1 K00 hn1
  iterate 2 refine fst1_ok X (dk rfl) rfl ?_
  rw [show Int32.ofInt 3 = nI 3 by decide +kernel]
  refine newR_ok (N := 3) (kd := 104) X E (by decide) clX6_15 (by decide) (dk rfl) (Nat.le_of_ble_eq_true rfl) (Nat.le_of_ble_eq_true rfl) (fun A hA hBA => ?_)
  have hoA : o ≠ A := fun z => by rw [z, hA] at oa1; cases oa1
  have hSA : S ≠ A := fun z => by rw [z, hA] at hS1; cases hS1
  have hA0 := hn1 A hA
  refine putf_ok X flX6_17 ftX6_1 (Or.inr ⟨by rw [hnm]; rfl, RX6, TX6, 14, rfl, rfl⟩) rfl rfl (dk rfl) (by rw [hup_ne _ _ hoA]; exact oa1) (Nat.le_of_ble_eq_true rfl) ?_
  have o0 : hup (hup h1 A (104, List.replicate 3 Value.null)) o (8, ([.ref S, .null, .int 0, .int 0, .int 0, .null, .null, .null, .null, .null, .null, .null, .null, .null] : List Value).set 1 (.ref A)) o = some (8, [.ref S, .ref A, .int 0, .int 0, .int 0, .null, .null, .null, .null, .null, .null, .null, .null, .null]) := hup_self _ _ _
  have S0 : hup (hup h1 A (104, List.replicate 3 Value.null)) o (8, ([.ref S, .null, .int 0, .int 0, .int 0, .null, .null, .null, .null, .null, .null, .null, .null, .null] : List Value).set 1 (.ref A)) S = some (103, filR [] 6) := by rw [hup_ne _ _ hoS.symm, hup_ne _ _ hSA]; exact hS1
  have A0 : hup (hup h1 A (104, List.replicate 3 Value.null)) o (8, ([.ref S, .null, .int 0, .int 0, .int 0, .null, .null, .null, .null, .null, .null, .null, .null, .null] : List Value).set 1 (.ref A)) A = some (104, filR [] 3) := by rw [hup_ne _ _ hoA.symm, hup_self, filR_0]
  have K0 : KL (ex3 o S A) h (hup (hup h1 A (104, List.replicate 3 Value.null)) o (8, ([.ref S, .null, .int 0, .int 0, .int 0, .null, .null, .null, .null, .null, .null, .null, .null, .null] : List Value).set 1 (.ref A))) [] [] := ((K00 A).set (Or.inr rfl) _).set (Or.inl (Or.inl rfl)) _
  generalize hup (hup h1 A (104, List.replicate 3 Value.null)) o (8, ([.ref S, .null, .int 0, .int 0, .int 0, .null, .null, .null, .null, .null, .null, .null, .null, .null] : List Value).set 1 (.ref A)) = H0 at o0 S0 A0 K0
  have xo : ∀ {hh : AH} {x y z : AC}, hh o = some x → hh S = some y → hh A = some z → ∀ a, ex3 o S A a → hh a ≠ none := fun {hh x y z} e1 e2 e3 a w => by
    rcases w with (rfl | rfl) | rfl
    · rw [e1]; intro q; cases q
    · rw [e2]; intro q; cases q
    · rw [e3]; intro q; cases q
  have nk : ∀ {hh : AH} {a k : Nat} {fs : List Value} {x y z : List Value}, hh o = some (8, x) → hh S = some (103, y) → hh A = some (104, z) → hh a = some (k, fs) → k ≠ 8 → k ≠ 103 → k ≠ 104 → ¬ ex3 o S A a := fun {hh a k fs x y z} e1 e2 e3 e4 n1 n2 n3 w => by
    rcases w with (w | w) | w
    · exact k_ne e4 e1 n1 w
    · exact k_ne e4 e2 n2 w
    · exact k_ne e4 e3 n3 w
  have OBz0 : OB (ex3 o S A) H0 [] := OB.nil
  have ALz0 : AL (ex3 o S A) H0 [] := AL.nil
  refine fst1_ok X (dk rfl) rfl ?_
  refine new_ok X nc6_9 (dk rfl) (by first | exact Nat.le_of_ble_eq_true rfl | (show _ ≤ _; omega)) (by first | exact Nat.le_of_ble_eq_true rfl | (show _ ≤ _; omega)) (fun u1 hu1 hBu1 => ?_)
  iterate 2 refine fst1_ok X (dk rfl) rfl ?_
  rw [show (Int8.ofInt 16).toInt32 = nI 16 by decide +kernel]
  refine callI_ok (av := [.int (nI 16)]) (r := [.ref u1, .ref o]) X E (n5_init _ (L := 16) (by omega) (hup_self _ _ _)) lkX5_init mlX6_21 lmX5_init rfl ⟨Nat.le_of_ble_eq_true rfl, Nat.le_of_ble_eq_true rfl⟩ ⟨Nat.le_of_ble_eq_true rfl, Nat.le_of_ble_eq_true rfl⟩ (Nat.le_of_ble_eq_true rfl) (dk rfl) ?_
  rintro v H1a ⟨rfl, q1, hq1, eH1⟩
  have K1b := KL.term (ex := (ex3 o S A)) (L := 16) (xo o0 S0 A0) hu1 hq1
  rw [← eH1] at K1b
  have nu1 : ∀ a, H0 a ≠ none → a ≠ u1 := fun a z y => z (by rw [y]; exact hu1)
  have nq1 : ∀ a, H0 a ≠ none → a ≠ q1 := fun a z y => z (by rw [hup_ne _ _ (fun y2 => by rw [y2, hup_self] at hq1; cases hq1)] at hq1; rw [y]; exact hq1)
  have kp1 : ∀ a, H0 a ≠ none → H1a a = H0 a := fun a z => by rw [eH1, hup_ne _ _ (nu1 a z), hup_ne _ _ (nq1 a z), hup_ne _ _ (nu1 a z)]
  have o1a := (kp1 o (xo o0 S0 A0 _ (Or.inl (Or.inl rfl)))).trans o0
  have S1a := (kp1 S (xo o0 S0 A0 _ (Or.inl (Or.inr rfl)))).trans S0
  have A1a := (kp1 A (xo o0 S0 A0 _ (Or.inr rfl))).trans A0
  have OBm1 : OB (ex3 o S A) H1a [] := OB.nil
  have ALm1 : AL (ex3 o S A) H1a [] := AL.nil
  refine putf_ok X flX6_24 ftX6_5 (Or.inr ⟨by rw [hnm]; rfl, RX6, TX6, 14, rfl, rfl⟩) rfl rfl (dk rfl) o1a (Nat.le_of_ble_eq_true rfl) ?_
  have o1 : hup H1a o (8, ([.ref S, .ref A, .int 0, .int 0, .int 0, .null, .null, .null, .null, .null, .null, .null, .null, .null] : List Value).set 5 (.ref u1)) o = some (8, [.ref S, .ref A, .int 0, .int 0, .int 0, .ref u1, .null, .null, .null, .null, .null, .null, .null, .null]) := hup_self _ _ _
  have S1 : hup H1a o (8, ([.ref S, .ref A, .int 0, .int 0, .int 0, .null, .null, .null, .null, .null, .null, .null, .null, .null] : List Value).set 5 (.ref u1)) S = some (103, filR [] 6) := by rw [hup_ne _ _ hoS.symm]; exact S1a
  have A1 : hup H1a o (8, ([.ref S, .ref A, .int 0, .int 0, .int 0, .null, .null, .null, .null, .null, .null, .null, .null, .null] : List Value).set 5 (.ref u1)) A = some (104, filR [] 3) := by rw [hup_ne _ _ hoA.symm]; exact A1a
  have K1 := (K0.tr K1b).set (a := o) (Or.inl (Or.inl rfl)) (8, ([.ref S, .ref A, .int 0, .int 0, .int 0, .null, .null, .null, .null, .null, .null, .null, .null, .null] : List Value).set 5 (.ref u1))
  have OBz1 := ((OBz0.kl K1b).app OBm1).set (a := o) (Or.inl (Or.inl rfl)) (8, ([.ref S, .ref A, .int 0, .int 0, .int 0, .null, .null, .null, .null, .null, .null, .null, .null, .null] : List Value).set 5 (.ref u1))
  have ALz1 := ((ALz0.kl K1b).app ALm1).set (a := o) (Or.inl (Or.inl rfl)) (8, ([.ref S, .ref A, .int 0, .int 0, .int 0, .null, .null, .null, .null, .null, .null, .null, .null, .null] : List Value).set 5 (.ref u1))
  generalize hup H1a o (8, ([.ref S, .ref A, .int 0, .int 0, .int 0, .null, .null, .null, .null, .null, .null, .null, .null, .null] : List Value).set 5 (.ref u1)) = H1 at o1 S1 A1 K1 OBz1 ALz1
  refine fst1_ok X (dk rfl) rfl ?_
  refine new_ok X nc6_9 (dk rfl) (by first | exact Nat.le_of_ble_eq_true rfl | (show _ ≤ _; omega)) (by first | exact Nat.le_of_ble_eq_true rfl | (show _ ≤ _; omega)) (fun u2 hu2 hBu2 => ?_)
  iterate 2 refine fst1_ok X (dk rfl) rfl ?_
  rw [show (Int8.ofInt 16).toInt32 = nI 16 by decide +kernel]
  refine callI_ok (av := [.int (nI 16)]) (r := [.ref u2, .ref o]) X E (n5_init _ (L := 16) (by omega) (hup_self _ _ _)) lkX5_init mlX6_21 lmX5_init rfl ⟨Nat.le_of_ble_eq_true rfl, Nat.le_of_ble_eq_true rfl⟩ ⟨Nat.le_of_ble_eq_true rfl, Nat.le_of_ble_eq_true rfl⟩ (Nat.le_of_ble_eq_true rfl) (dk rfl) ?_
  rintro v H2a ⟨rfl, q2, hq2, eH2⟩
  have K2b := KL.term (ex := (ex3 o S A)) (L := 16) (xo o1 S1 A1) hu2 hq2
  rw [← eH2] at K2b
  have nu2 : ∀ a, H1 a ≠ none → a ≠ u2 := fun a z y => z (by rw [y]; exact hu2)
  have nq2 : ∀ a, H1 a ≠ none → a ≠ q2 := fun a z y => z (by rw [hup_ne _ _ (fun y2 => by rw [y2, hup_self] at hq2; cases hq2)] at hq2; rw [y]; exact hq2)
  have kp2 : ∀ a, H1 a ≠ none → H2a a = H1 a := fun a z => by rw [eH2, hup_ne _ _ (nu2 a z), hup_ne _ _ (nq2 a z), hup_ne _ _ (nu2 a z)]
  have o2a := (kp2 o (xo o1 S1 A1 _ (Or.inl (Or.inl rfl)))).trans o1
  have S2a := (kp2 S (xo o1 S1 A1 _ (Or.inl (Or.inr rfl)))).trans S1
  have A2a := (kp2 A (xo o1 S1 A1 _ (Or.inr rfl))).trans A1
  have OBm2 : OB (ex3 o S A) H2a [] := OB.nil
  have ALm2 : AL (ex3 o S A) H2a [] := AL.nil
  refine putf_ok X flX6_28 ftX6_6 (Or.inr ⟨by rw [hnm]; rfl, RX6, TX6, 14, rfl, rfl⟩) rfl rfl (dk rfl) o2a (Nat.le_of_ble_eq_true rfl) ?_
  have o2 : hup H2a o (8, ([.ref S, .ref A, .int 0, .int 0, .int 0, .ref u1, .null, .null, .null, .null, .null, .null, .null, .null] : List Value).set 6 (.ref u2)) o = some (8, [.ref S, .ref A, .int 0, .int 0, .int 0, .ref u1, .ref u2, .null, .null, .null, .null, .null, .null, .null]) := hup_self _ _ _
  have S2 : hup H2a o (8, ([.ref S, .ref A, .int 0, .int 0, .int 0, .ref u1, .null, .null, .null, .null, .null, .null, .null, .null] : List Value).set 6 (.ref u2)) S = some (103, filR [] 6) := by rw [hup_ne _ _ hoS.symm]; exact S2a
  have A2 : hup H2a o (8, ([.ref S, .ref A, .int 0, .int 0, .int 0, .ref u1, .null, .null, .null, .null, .null, .null, .null, .null] : List Value).set 6 (.ref u2)) A = some (104, filR [] 3) := by rw [hup_ne _ _ hoA.symm]; exact A2a
  have K2 := (K1.tr K2b).set (a := o) (Or.inl (Or.inl rfl)) (8, ([.ref S, .ref A, .int 0, .int 0, .int 0, .ref u1, .null, .null, .null, .null, .null, .null, .null, .null] : List Value).set 6 (.ref u2))
  have OBz2 := ((OBz1.kl K2b).app OBm2).set (a := o) (Or.inl (Or.inl rfl)) (8, ([.ref S, .ref A, .int 0, .int 0, .int 0, .ref u1, .null, .null, .null, .null, .null, .null, .null, .null] : List Value).set 6 (.ref u2))
  have ALz2 := ((ALz1.kl K2b).app ALm2).set (a := o) (Or.inl (Or.inl rfl)) (8, ([.ref S, .ref A, .int 0, .int 0, .int 0, .ref u1, .null, .null, .null, .null, .null, .null, .null, .null] : List Value).set 6 (.ref u2))
  generalize hup H2a o (8, ([.ref S, .ref A, .int 0, .int 0, .int 0, .ref u1, .null, .null, .null, .null, .null, .null, .null, .null] : List Value).set 6 (.ref u2)) = H2 at o2 S2 A2 K2 OBz2 ALz2
  refine fst1_ok X (dk rfl) rfl ?_
  refine new_ok X nc6_9 (dk rfl) (by first | exact Nat.le_of_ble_eq_true rfl | (show _ ≤ _; omega)) (by first | exact Nat.le_of_ble_eq_true rfl | (show _ ≤ _; omega)) (fun u3 hu3 hBu3 => ?_)
  iterate 2 refine fst1_ok X (dk rfl) rfl ?_
  rw [show (Int16.ofInt 256).toInt32 = nI 256 by decide +kernel]
  refine callI_ok (av := [.int (nI 256)]) (r := [.ref u3, .ref o]) X E (n5_init _ (L := 256) (by omega) (hup_self _ _ _)) lkX5_init mlX6_21 lmX5_init rfl ⟨Nat.le_of_ble_eq_true rfl, Nat.le_of_ble_eq_true rfl⟩ ⟨Nat.le_of_ble_eq_true rfl, Nat.le_of_ble_eq_true rfl⟩ (Nat.le_of_ble_eq_true rfl) (dk rfl) ?_
  rintro v H3a ⟨rfl, q3, hq3, eH3⟩
  have K3b := KL.term (ex := (ex3 o S A)) (L := 256) (xo o2 S2 A2) hu3 hq3
  rw [← eH3] at K3b
  have nu3 : ∀ a, H2 a ≠ none → a ≠ u3 := fun a z y => z (by rw [y]; exact hu3)
  have nq3 : ∀ a, H2 a ≠ none → a ≠ q3 := fun a z y => z (by rw [hup_ne _ _ (fun y2 => by rw [y2, hup_self] at hq3; cases hq3)] at hq3; rw [y]; exact hq3)
  have kp3 : ∀ a, H2 a ≠ none → H3a a = H2 a := fun a z => by rw [eH3, hup_ne _ _ (nu3 a z), hup_ne _ _ (nq3 a z), hup_ne _ _ (nu3 a z)]
  have o3a := (kp3 o (xo o2 S2 A2 _ (Or.inl (Or.inl rfl)))).trans o2
  have S3a := (kp3 S (xo o2 S2 A2 _ (Or.inl (Or.inr rfl)))).trans S2
  have A3a := (kp3 A (xo o2 S2 A2 _ (Or.inr rfl))).trans A2
  have OBm3 : OB (ex3 o S A) H3a [] := OB.nil
  have ALm3 : AL (ex3 o S A) H3a [] := AL.nil
  refine putf_ok X flX6_31 ftX6_7 (Or.inr ⟨by rw [hnm]; rfl, RX6, TX6, 14, rfl, rfl⟩) rfl rfl (dk rfl) o3a (Nat.le_of_ble_eq_true rfl) ?_
  have o3 : hup H3a o (8, ([.ref S, .ref A, .int 0, .int 0, .int 0, .ref u1, .ref u2, .null, .null, .null, .null, .null, .null, .null] : List Value).set 7 (.ref u3)) o = some (8, [.ref S, .ref A, .int 0, .int 0, .int 0, .ref u1, .ref u2, .ref u3, .null, .null, .null, .null, .null, .null]) := hup_self _ _ _
  have S3 : hup H3a o (8, ([.ref S, .ref A, .int 0, .int 0, .int 0, .ref u1, .ref u2, .null, .null, .null, .null, .null, .null, .null] : List Value).set 7 (.ref u3)) S = some (103, filR [] 6) := by rw [hup_ne _ _ hoS.symm]; exact S3a
  have A3 : hup H3a o (8, ([.ref S, .ref A, .int 0, .int 0, .int 0, .ref u1, .ref u2, .null, .null, .null, .null, .null, .null, .null] : List Value).set 7 (.ref u3)) A = some (104, filR [] 3) := by rw [hup_ne _ _ hoA.symm]; exact A3a
  have K3 := (K2.tr K3b).set (a := o) (Or.inl (Or.inl rfl)) (8, ([.ref S, .ref A, .int 0, .int 0, .int 0, .ref u1, .ref u2, .null, .null, .null, .null, .null, .null, .null] : List Value).set 7 (.ref u3))
  have OBz3 := ((OBz2.kl K3b).app OBm3).set (a := o) (Or.inl (Or.inl rfl)) (8, ([.ref S, .ref A, .int 0, .int 0, .int 0, .ref u1, .ref u2, .null, .null, .null, .null, .null, .null, .null] : List Value).set 7 (.ref u3))
  have ALz3 := ((ALz2.kl K3b).app ALm3).set (a := o) (Or.inl (Or.inl rfl)) (8, ([.ref S, .ref A, .int 0, .int 0, .int 0, .ref u1, .ref u2, .null, .null, .null, .null, .null, .null, .null] : List Value).set 7 (.ref u3))
  generalize hup H3a o (8, ([.ref S, .ref A, .int 0, .int 0, .int 0, .ref u1, .ref u2, .null, .null, .null, .null, .null, .null, .null] : List Value).set 7 (.ref u3)) = H3 at o3 S3 A3 K3 OBz3 ALz3
  refine fst1_ok X (dk rfl) rfl ?_
  refine new_ok X nc6_9 (dk rfl) (by first | exact Nat.le_of_ble_eq_true rfl | (show _ ≤ _; omega)) (by first | exact Nat.le_of_ble_eq_true rfl | (show _ ≤ _; omega)) (fun u4 hu4 hBu4 => ?_)
  iterate 2 refine fst1_ok X (dk rfl) rfl ?_
  rw [show (Int16.ofInt 256).toInt32 = nI 256 by decide +kernel]
  refine callI_ok (av := [.int (nI 256)]) (r := [.ref u4, .ref o]) X E (n5_init _ (L := 256) (by omega) (hup_self _ _ _)) lkX5_init mlX6_21 lmX5_init rfl ⟨Nat.le_of_ble_eq_true rfl, Nat.le_of_ble_eq_true rfl⟩ ⟨Nat.le_of_ble_eq_true rfl, Nat.le_of_ble_eq_true rfl⟩ (Nat.le_of_ble_eq_true rfl) (dk rfl) ?_
  rintro v H4a ⟨rfl, q4, hq4, eH4⟩
  have K4b := KL.term (ex := (ex3 o S A)) (L := 256) (xo o3 S3 A3) hu4 hq4
  rw [← eH4] at K4b
  have nu4 : ∀ a, H3 a ≠ none → a ≠ u4 := fun a z y => z (by rw [y]; exact hu4)
  have nq4 : ∀ a, H3 a ≠ none → a ≠ q4 := fun a z y => z (by rw [hup_ne _ _ (fun y2 => by rw [y2, hup_self] at hq4; cases hq4)] at hq4; rw [y]; exact hq4)
  have kp4 : ∀ a, H3 a ≠ none → H4a a = H3 a := fun a z => by rw [eH4, hup_ne _ _ (nu4 a z), hup_ne _ _ (nq4 a z), hup_ne _ _ (nu4 a z)]
  have o4a := (kp4 o (xo o3 S3 A3 _ (Or.inl (Or.inl rfl)))).trans o3
  have S4a := (kp4 S (xo o3 S3 A3 _ (Or.inl (Or.inr rfl)))).trans S3
  have A4a := (kp4 A (xo o3 S3 A3 _ (Or.inr rfl))).trans A3
  have OBm4 : OB (ex3 o S A) H4a [] := OB.nil
  have ALm4 : AL (ex3 o S A) H4a [] := AL.nil
  refine putf_ok X flX6_34 ftX6_8 (Or.inr ⟨by rw [hnm]; rfl, RX6, TX6, 14, rfl, rfl⟩) rfl rfl (dk rfl) o4a (Nat.le_of_ble_eq_true rfl) ?_
  have o4 : hup H4a o (8, ([.ref S, .ref A, .int 0, .int 0, .int 0, .ref u1, .ref u2, .ref u3, .null, .null, .null, .null, .null, .null] : List Value).set 8 (.ref u4)) o = some (8, [.ref S, .ref A, .int 0, .int 0, .int 0, .ref u1, .ref u2, .ref u3, .ref u4, .null, .null, .null, .null, .null]) := hup_self _ _ _
  have S4 : hup H4a o (8, ([.ref S, .ref A, .int 0, .int 0, .int 0, .ref u1, .ref u2, .ref u3, .null, .null, .null, .null, .null, .null] : List Value).set 8 (.ref u4)) S = some (103, filR [] 6) := by rw [hup_ne _ _ hoS.symm]; exact S4a
  have A4 : hup H4a o (8, ([.ref S, .ref A, .int 0, .int 0, .int 0, .ref u1, .ref u2, .ref u3, .null, .null, .null, .null, .null, .null] : List Value).set 8 (.ref u4)) A = some (104, filR [] 3) := by rw [hup_ne _ _ hoA.symm]; exact A4a
  have K4 := (K3.tr K4b).set (a := o) (Or.inl (Or.inl rfl)) (8, ([.ref S, .ref A, .int 0, .int 0, .int 0, .ref u1, .ref u2, .ref u3, .null, .null, .null, .null, .null, .null] : List Value).set 8 (.ref u4))
  have OBz4 := ((OBz3.kl K4b).app OBm4).set (a := o) (Or.inl (Or.inl rfl)) (8, ([.ref S, .ref A, .int 0, .int 0, .int 0, .ref u1, .ref u2, .ref u3, .null, .null, .null, .null, .null, .null] : List Value).set 8 (.ref u4))
  have ALz4 := ((ALz3.kl K4b).app ALm4).set (a := o) (Or.inl (Or.inl rfl)) (8, ([.ref S, .ref A, .int 0, .int 0, .int 0, .ref u1, .ref u2, .ref u3, .null, .null, .null, .null, .null, .null] : List Value).set 8 (.ref u4))
  generalize hup H4a o (8, ([.ref S, .ref A, .int 0, .int 0, .int 0, .ref u1, .ref u2, .ref u3, .null, .null, .null, .null, .null, .null] : List Value).set 8 (.ref u4)) = H4 at o4 S4 A4 K4 OBz4 ALz4
  refine fst1_ok X (dk rfl) rfl ?_
  refine new_ok X nc6_15 (dk rfl) (by first | exact Nat.le_of_ble_eq_true rfl | (show _ ≤ _; omega)) (by first | exact Nat.le_of_ble_eq_true rfl | (show _ ≤ _; omega)) (fun u5 hu5 hBu5 => ?_)
  refine fst1_ok X (dk rfl) rfl ?_
  refine callI_ok (av := []) (r := [.ref u5, .ref o]) X E (n0_init _ (hup_self _ _ _)) lkX0_init mlX6_37 lmX0_init rfl ⟨Nat.le_of_ble_eq_true rfl, Nat.le_of_ble_eq_true rfl⟩ ⟨Nat.le_of_ble_eq_true rfl, Nat.le_of_ble_eq_true rfl⟩ (Nat.le_of_ble_eq_true rfl) (dk rfl) ?_
  rintro v H5a ⟨rfl, ar5, t5, x5, y5, z5, w5, N5⟩
  have K5b := KL.nest (ex := (ex3 o S A)) (xo o4 S4 A4) hu5 N5
  have nu5 : ∀ a, H4 a ≠ none → a ≠ u5 := fun a z y => z (by rw [y]; exact hu5)
  have o5a := N5.1 o _ (nu5 o (xo o4 S4 A4 _ (Or.inl (Or.inl rfl)))) (by rw [hup_ne _ _ (nu5 o (xo o4 S4 A4 _ (Or.inl (Or.inl rfl))))]; exact o4)
  have S5a := N5.1 S _ (nu5 S (xo o4 S4 A4 _ (Or.inl (Or.inr rfl)))) (by rw [hup_ne _ _ (nu5 S (xo o4 S4 A4 _ (Or.inl (Or.inr rfl))))]; exact S4)
  have A5a := N5.1 A _ (nu5 A (xo o4 S4 A4 _ (Or.inr rfl))) (by rw [hup_ne _ _ (nu5 A (xo o4 S4 A4 _ (Or.inr rfl)))]; exact A4)
  have na5 : ¬ ex3 o S A ar5 := fun z => xo o4 S4 A4 _ z (by rw [hup_ne _ _ (fun y2 => by rw [y2, hup_self] at w5; cases w5)] at w5; exact w5)
  have ALm5 : AL (ex3 o S A) H5a [(u5, ar5, t5)] := AL.one z5 (nk o5a S5a A5a x5 (by decide) (by decide) (by decide)) na5 x5 y5
  have OBm5 : OB (ex3 o S A) H5a [] := OB.nil
  refine putf_ok X flX6_38 ftX6_9 (Or.inr ⟨by rw [hnm]; rfl, RX6, TX6, 14, rfl, rfl⟩) rfl rfl (dk rfl) o5a (Nat.le_of_ble_eq_true rfl) ?_
  have o5 : hup H5a o (8, ([.ref S, .ref A, .int 0, .int 0, .int 0, .ref u1, .ref u2, .ref u3, .ref u4, .null, .null, .null, .null, .null] : List Value).set 9 (.ref u5)) o = some (8, [.ref S, .ref A, .int 0, .int 0, .int 0, .ref u1, .ref u2, .ref u3, .ref u4, .ref u5, .null, .null, .null, .null]) := hup_self _ _ _
  have S5 : hup H5a o (8, ([.ref S, .ref A, .int 0, .int 0, .int 0, .ref u1, .ref u2, .ref u3, .ref u4, .null, .null, .null, .null, .null] : List Value).set 9 (.ref u5)) S = some (103, filR [] 6) := by rw [hup_ne _ _ hoS.symm]; exact S5a
  have A5 : hup H5a o (8, ([.ref S, .ref A, .int 0, .int 0, .int 0, .ref u1, .ref u2, .ref u3, .ref u4, .null, .null, .null, .null, .null] : List Value).set 9 (.ref u5)) A = some (104, filR [] 3) := by rw [hup_ne _ _ hoA.symm]; exact A5a
  have K5 := (K4.tr K5b).set (a := o) (Or.inl (Or.inl rfl)) (8, ([.ref S, .ref A, .int 0, .int 0, .int 0, .ref u1, .ref u2, .ref u3, .ref u4, .null, .null, .null, .null, .null] : List Value).set 9 (.ref u5))
  have OBz5 := ((OBz4.kl K5b).app OBm5).set (a := o) (Or.inl (Or.inl rfl)) (8, ([.ref S, .ref A, .int 0, .int 0, .int 0, .ref u1, .ref u2, .ref u3, .ref u4, .null, .null, .null, .null, .null] : List Value).set 9 (.ref u5))
  have ALz5 := ((ALz4.kl K5b).app ALm5).set (a := o) (Or.inl (Or.inl rfl)) (8, ([.ref S, .ref A, .int 0, .int 0, .int 0, .ref u1, .ref u2, .ref u3, .ref u4, .null, .null, .null, .null, .null] : List Value).set 9 (.ref u5))
  generalize hup H5a o (8, ([.ref S, .ref A, .int 0, .int 0, .int 0, .ref u1, .ref u2, .ref u3, .ref u4, .null, .null, .null, .null, .null] : List Value).set 9 (.ref u5)) = H5 at o5 S5 A5 K5 OBz5 ALz5
  refine fst1_ok X (dk rfl) rfl ?_
  refine new_ok X nc6_15 (dk rfl) (by first | exact Nat.le_of_ble_eq_true rfl | (show _ ≤ _; omega)) (by first | exact Nat.le_of_ble_eq_true rfl | (show _ ≤ _; omega)) (fun u6 hu6 hBu6 => ?_)
  refine fst1_ok X (dk rfl) rfl ?_
  refine callI_ok (av := []) (r := [.ref u6, .ref o]) X E (n0_init _ (hup_self _ _ _)) lkX0_init mlX6_37 lmX0_init rfl ⟨Nat.le_of_ble_eq_true rfl, Nat.le_of_ble_eq_true rfl⟩ ⟨Nat.le_of_ble_eq_true rfl, Nat.le_of_ble_eq_true rfl⟩ (Nat.le_of_ble_eq_true rfl) (dk rfl) ?_
  rintro v H6a ⟨rfl, ar6, t6, x6, y6, z6, w6, N6⟩
  have K6b := KL.nest (ex := (ex3 o S A)) (xo o5 S5 A5) hu6 N6
  have nu6 : ∀ a, H5 a ≠ none → a ≠ u6 := fun a z y => z (by rw [y]; exact hu6)
  have o6a := N6.1 o _ (nu6 o (xo o5 S5 A5 _ (Or.inl (Or.inl rfl)))) (by rw [hup_ne _ _ (nu6 o (xo o5 S5 A5 _ (Or.inl (Or.inl rfl))))]; exact o5)
  have S6a := N6.1 S _ (nu6 S (xo o5 S5 A5 _ (Or.inl (Or.inr rfl)))) (by rw [hup_ne _ _ (nu6 S (xo o5 S5 A5 _ (Or.inl (Or.inr rfl))))]; exact S5)
  have A6a := N6.1 A _ (nu6 A (xo o5 S5 A5 _ (Or.inr rfl))) (by rw [hup_ne _ _ (nu6 A (xo o5 S5 A5 _ (Or.inr rfl)))]; exact A5)
  have na6 : ¬ ex3 o S A ar6 := fun z => xo o5 S5 A5 _ z (by rw [hup_ne _ _ (fun y2 => by rw [y2, hup_self] at w6; cases w6)] at w6; exact w6)
  have ALm6 : AL (ex3 o S A) H6a [(u6, ar6, t6)] := AL.one z6 (nk o6a S6a A6a x6 (by decide) (by decide) (by decide)) na6 x6 y6
  have OBm6 : OB (ex3 o S A) H6a [] := OB.nil
  refine putf_ok X flX6_42 ftX6_10 (Or.inr ⟨by rw [hnm]; rfl, RX6, TX6, 14, rfl, rfl⟩) rfl rfl (dk rfl) o6a (Nat.le_of_ble_eq_true rfl) ?_
  have o6 : hup H6a o (8, ([.ref S, .ref A, .int 0, .int 0, .int 0, .ref u1, .ref u2, .ref u3, .ref u4, .ref u5, .null, .null, .null, .null] : List Value).set 10 (.ref u6)) o = some (8, [.ref S, .ref A, .int 0, .int 0, .int 0, .ref u1, .ref u2, .ref u3, .ref u4, .ref u5, .ref u6, .null, .null, .null]) := hup_self _ _ _
  have S6 : hup H6a o (8, ([.ref S, .ref A, .int 0, .int 0, .int 0, .ref u1, .ref u2, .ref u3, .ref u4, .ref u5, .null, .null, .null, .null] : List Value).set 10 (.ref u6)) S = some (103, filR [] 6) := by rw [hup_ne _ _ hoS.symm]; exact S6a
  have A6 : hup H6a o (8, ([.ref S, .ref A, .int 0, .int 0, .int 0, .ref u1, .ref u2, .ref u3, .ref u4, .ref u5, .null, .null, .null, .null] : List Value).set 10 (.ref u6)) A = some (104, filR [] 3) := by rw [hup_ne _ _ hoA.symm]; exact A6a
  have K6 := (K5.tr K6b).set (a := o) (Or.inl (Or.inl rfl)) (8, ([.ref S, .ref A, .int 0, .int 0, .int 0, .ref u1, .ref u2, .ref u3, .ref u4, .ref u5, .null, .null, .null, .null] : List Value).set 10 (.ref u6))
  have OBz6 := ((OBz5.kl K6b).app OBm6).set (a := o) (Or.inl (Or.inl rfl)) (8, ([.ref S, .ref A, .int 0, .int 0, .int 0, .ref u1, .ref u2, .ref u3, .ref u4, .ref u5, .null, .null, .null, .null] : List Value).set 10 (.ref u6))
  have ALz6 := ((ALz5.kl K6b).app ALm6).set (a := o) (Or.inl (Or.inl rfl)) (8, ([.ref S, .ref A, .int 0, .int 0, .int 0, .ref u1, .ref u2, .ref u3, .ref u4, .ref u5, .null, .null, .null, .null] : List Value).set 10 (.ref u6))
  generalize hup H6a o (8, ([.ref S, .ref A, .int 0, .int 0, .int 0, .ref u1, .ref u2, .ref u3, .ref u4, .ref u5, .null, .null, .null, .null] : List Value).set 10 (.ref u6)) = H6 at o6 S6 A6 K6 OBz6 ALz6
  refine fst1_ok X (dk rfl) rfl ?_
  refine new_ok X nc6_45 (dk rfl) (by first | exact Nat.le_of_ble_eq_true rfl | (show _ ≤ _; omega)) (by first | exact Nat.le_of_ble_eq_true rfl | (show _ ≤ _; omega)) (fun u7 hu7 hBu7 => ?_)
  refine fst1_ok X (dk rfl) rfl ?_
  refine callIN_ok (av := []) (r := [.ref u7, .ref o]) X E (n4_init _ (hup_self _ _ _)) lkX4_init mnX6_47 lmX4_init rfl ⟨Nat.le_of_ble_eq_true rfl, Nat.le_of_ble_eq_true rfl⟩ ⟨Nat.le_of_ble_eq_true rfl, Nat.le_of_ble_eq_true rfl⟩ (Nat.le_of_ble_eq_true rfl) (dk rfl) ?_
  rintro v H7a ⟨rfl, b7, c7, r7, p7, d7, e7, x7, y7, N7⟩
  have K7b := KL.nest (ex := (ex3 o S A)) (xo o6 S6 A6) hu7 N7
  have nu7 : ∀ a, H6 a ≠ none → a ≠ u7 := fun a z y => z (by rw [y]; exact hu7)
  have o7a := N7.1 o _ (nu7 o (xo o6 S6 A6 _ (Or.inl (Or.inl rfl)))) (by rw [hup_ne _ _ (nu7 o (xo o6 S6 A6 _ (Or.inl (Or.inl rfl))))]; exact o6)
  have S7a := N7.1 S _ (nu7 S (xo o6 S6 A6 _ (Or.inl (Or.inr rfl)))) (by rw [hup_ne _ _ (nu7 S (xo o6 S6 A6 _ (Or.inl (Or.inr rfl))))]; exact S6)
  have A7a := N7.1 A _ (nu7 A (xo o6 S6 A6 _ (Or.inr rfl))) (by rw [hup_ne _ _ (nu7 A (xo o6 S6 A6 _ (Or.inr rfl)))]; exact A6)
  have OBm7 : OB (ex3 o S A) H7a [(u7, (6, [.ref b7, .ref r7, .ref p7, .int 0, .int 0])), (p7, (4, [.ref d7, .ref e7, vI 0]))] := (OB.one (nk o7a S7a A7a x7 (by decide) (by decide) (by decide)) x7).app (OB.one (nk o7a S7a A7a y7 (by decide) (by decide) (by decide)) y7)
  have ALm7 : AL (ex3 o S A) H7a [] := AL.nil
  refine putf_ok X flX6_48 ftX6_11 (Or.inr ⟨by rw [hnm]; rfl, RX6, TX6, 14, rfl, rfl⟩) rfl rfl (dk rfl) o7a (Nat.le_of_ble_eq_true rfl) ?_
  have o7 : hup H7a o (8, ([.ref S, .ref A, .int 0, .int 0, .int 0, .ref u1, .ref u2, .ref u3, .ref u4, .ref u5, .ref u6, .null, .null, .null] : List Value).set 11 (.ref u7)) o = some (8, [.ref S, .ref A, .int 0, .int 0, .int 0, .ref u1, .ref u2, .ref u3, .ref u4, .ref u5, .ref u6, .ref u7, .null, .null]) := hup_self _ _ _
  have S7 : hup H7a o (8, ([.ref S, .ref A, .int 0, .int 0, .int 0, .ref u1, .ref u2, .ref u3, .ref u4, .ref u5, .ref u6, .null, .null, .null] : List Value).set 11 (.ref u7)) S = some (103, filR [] 6) := by rw [hup_ne _ _ hoS.symm]; exact S7a
  have A7 : hup H7a o (8, ([.ref S, .ref A, .int 0, .int 0, .int 0, .ref u1, .ref u2, .ref u3, .ref u4, .ref u5, .ref u6, .null, .null, .null] : List Value).set 11 (.ref u7)) A = some (104, filR [] 3) := by rw [hup_ne _ _ hoA.symm]; exact A7a
  have K7 := (K6.tr K7b).set (a := o) (Or.inl (Or.inl rfl)) (8, ([.ref S, .ref A, .int 0, .int 0, .int 0, .ref u1, .ref u2, .ref u3, .ref u4, .ref u5, .ref u6, .null, .null, .null] : List Value).set 11 (.ref u7))
  have OBz7 := ((OBz6.kl K7b).app OBm7).set (a := o) (Or.inl (Or.inl rfl)) (8, ([.ref S, .ref A, .int 0, .int 0, .int 0, .ref u1, .ref u2, .ref u3, .ref u4, .ref u5, .ref u6, .null, .null, .null] : List Value).set 11 (.ref u7))
  have ALz7 := ((ALz6.kl K7b).app ALm7).set (a := o) (Or.inl (Or.inl rfl)) (8, ([.ref S, .ref A, .int 0, .int 0, .int 0, .ref u1, .ref u2, .ref u3, .ref u4, .ref u5, .ref u6, .null, .null, .null] : List Value).set 11 (.ref u7))
  generalize hup H7a o (8, ([.ref S, .ref A, .int 0, .int 0, .int 0, .ref u1, .ref u2, .ref u3, .ref u4, .ref u5, .ref u6, .null, .null, .null] : List Value).set 11 (.ref u7)) = H7 at o7 S7 A7 K7 OBz7 ALz7
  refine fst1_ok X (dk rfl) rfl ?_
  refine new_ok X nc6_52 (dk rfl) (by first | exact Nat.le_of_ble_eq_true rfl | (show _ ≤ _; omega)) (by first | exact Nat.le_of_ble_eq_true rfl | (show _ ≤ _; omega)) (fun u8 hu8 hBu8 => ?_)
  refine fst1_ok X (dk rfl) rfl ?_
  refine callIN_ok (av := []) (r := [.ref u8, .ref o]) X E (n1_init _ (hup_self _ _ _)) lkX1_init mnX6_54 lmX1_init rfl ⟨Nat.le_of_ble_eq_true rfl, Nat.le_of_ble_eq_true rfl⟩ ⟨Nat.le_of_ble_eq_true rfl, Nat.le_of_ble_eq_true rfl⟩ (Nat.le_of_ble_eq_true rfl) (dk rfl) ?_
  rintro v H8a ⟨rfl, b8, c8, r8, s8, f8, p8, d8, e8, x8, y8, N8⟩
  have K8b := KL.nest (ex := (ex3 o S A)) (xo o7 S7 A7) hu8 N8
  have nu8 : ∀ a, H7 a ≠ none → a ≠ u8 := fun a z y => z (by rw [y]; exact hu8)
  have o8a := N8.1 o _ (nu8 o (xo o7 S7 A7 _ (Or.inl (Or.inl rfl)))) (by rw [hup_ne _ _ (nu8 o (xo o7 S7 A7 _ (Or.inl (Or.inl rfl))))]; exact o7)
  have S8a := N8.1 S _ (nu8 S (xo o7 S7 A7 _ (Or.inl (Or.inr rfl)))) (by rw [hup_ne _ _ (nu8 S (xo o7 S7 A7 _ (Or.inl (Or.inr rfl))))]; exact S7)
  have A8a := N8.1 A _ (nu8 A (xo o7 S7 A7 _ (Or.inr rfl))) (by rw [hup_ne _ _ (nu8 A (xo o7 S7 A7 _ (Or.inr rfl)))]; exact A7)
  have OBm8 : OB (ex3 o S A) H8a [(u8, (3, [.ref b8, .ref r8, .ref s8, .ref f8, .ref p8])), (p8, (4, [.ref d8, .ref e8, vI 0]))] := (OB.one (nk o8a S8a A8a x8 (by decide) (by decide) (by decide)) x8).app (OB.one (nk o8a S8a A8a y8 (by decide) (by decide) (by decide)) y8)
  have ALm8 : AL (ex3 o S A) H8a [] := AL.nil
  refine putf_ok X flX6_55 ftX6_12 (Or.inr ⟨by rw [hnm]; rfl, RX6, TX6, 14, rfl, rfl⟩) rfl rfl (dk rfl) o8a (Nat.le_of_ble_eq_true rfl) ?_
  have o8 : hup H8a o (8, ([.ref S, .ref A, .int 0, .int 0, .int 0, .ref u1, .ref u2, .ref u3, .ref u4, .ref u5, .ref u6, .ref u7, .null, .null] : List Value).set 12 (.ref u8)) o = some (8, [.ref S, .ref A, .int 0, .int 0, .int 0, .ref u1, .ref u2, .ref u3, .ref u4, .ref u5, .ref u6, .ref u7, .ref u8, .null]) := hup_self _ _ _
  have S8 : hup H8a o (8, ([.ref S, .ref A, .int 0, .int 0, .int 0, .ref u1, .ref u2, .ref u3, .ref u4, .ref u5, .ref u6, .ref u7, .null, .null] : List Value).set 12 (.ref u8)) S = some (103, filR [] 6) := by rw [hup_ne _ _ hoS.symm]; exact S8a
  have A8 : hup H8a o (8, ([.ref S, .ref A, .int 0, .int 0, .int 0, .ref u1, .ref u2, .ref u3, .ref u4, .ref u5, .ref u6, .ref u7, .null, .null] : List Value).set 12 (.ref u8)) A = some (104, filR [] 3) := by rw [hup_ne _ _ hoA.symm]; exact A8a
  have K8 := (K7.tr K8b).set (a := o) (Or.inl (Or.inl rfl)) (8, ([.ref S, .ref A, .int 0, .int 0, .int 0, .ref u1, .ref u2, .ref u3, .ref u4, .ref u5, .ref u6, .ref u7, .null, .null] : List Value).set 12 (.ref u8))
  have OBz8 := ((OBz7.kl K8b).app OBm8).set (a := o) (Or.inl (Or.inl rfl)) (8, ([.ref S, .ref A, .int 0, .int 0, .int 0, .ref u1, .ref u2, .ref u3, .ref u4, .ref u5, .ref u6, .ref u7, .null, .null] : List Value).set 12 (.ref u8))
  have ALz8 := ((ALz7.kl K8b).app ALm8).set (a := o) (Or.inl (Or.inl rfl)) (8, ([.ref S, .ref A, .int 0, .int 0, .int 0, .ref u1, .ref u2, .ref u3, .ref u4, .ref u5, .ref u6, .ref u7, .null, .null] : List Value).set 12 (.ref u8))
  generalize hup H8a o (8, ([.ref S, .ref A, .int 0, .int 0, .int 0, .ref u1, .ref u2, .ref u3, .ref u4, .ref u5, .ref u6, .ref u7, .null, .null] : List Value).set 12 (.ref u8)) = H8 at o8 S8 A8 K8 OBz8 ALz8
  refine fst1_ok X (dk rfl) rfl ?_
  refine new_ok X nc6_59 (dk rfl) (by first | exact Nat.le_of_ble_eq_true rfl | (show _ ≤ _; omega)) (by first | exact Nat.le_of_ble_eq_true rfl | (show _ ≤ _; omega)) (fun u9 hu9 hBu9 => ?_)
  refine fst1_ok X (dk rfl) rfl ?_
  refine callIN_ok (av := []) (r := [.ref u9, .ref o]) X E (n3_init _ (hup_self _ _ _)) lkX3_init mnX6_61 lmX3_init rfl ⟨Nat.le_of_ble_eq_true rfl, Nat.le_of_ble_eq_true rfl⟩ ⟨Nat.le_of_ble_eq_true rfl, Nat.le_of_ble_eq_true rfl⟩ (Nat.le_of_ble_eq_true rfl) (dk rfl) ?_
  rintro v H9a ⟨rfl, p9, d9, e9, x9, y9, w9, N9⟩
  have K9b := KL.nest (ex := (ex3 o S A)) (xo o8 S8 A8) hu9 N9
  have nu9 : ∀ a, H8 a ≠ none → a ≠ u9 := fun a z y => z (by rw [y]; exact hu9)
  have o9a := N9.1 o _ (nu9 o (xo o8 S8 A8 _ (Or.inl (Or.inl rfl)))) (by rw [hup_ne _ _ (nu9 o (xo o8 S8 A8 _ (Or.inl (Or.inl rfl))))]; exact o8)
  have S9a := N9.1 S _ (nu9 S (xo o8 S8 A8 _ (Or.inl (Or.inr rfl)))) (by rw [hup_ne _ _ (nu9 S (xo o8 S8 A8 _ (Or.inl (Or.inr rfl))))]; exact S8)
  have A9a := N9.1 A _ (nu9 A (xo o8 S8 A8 _ (Or.inr rfl))) (by rw [hup_ne _ _ (nu9 A (xo o8 S8 A8 _ (Or.inr rfl)))]; exact A8)
  have OBm9 : OB (ex3 o S A) H9a [(u9, (5, [.ref p9])), (p9, (4, [.ref d9, .ref e9, vI 0]))] := (OB.one (nk o9a S9a A9a x9 (by decide) (by decide) (by decide)) x9).app (OB.one (nk o9a S9a A9a y9 (by decide) (by decide) (by decide)) y9)
  have ALm9 : AL (ex3 o S A) H9a [] := AL.nil
  refine putf_ok X flX6_62 ftX6_13 (Or.inr ⟨by rw [hnm]; rfl, RX6, TX6, 14, rfl, rfl⟩) rfl rfl (dk rfl) o9a (Nat.le_of_ble_eq_true rfl) ?_
  have o9 : hup H9a o (8, ([.ref S, .ref A, .int 0, .int 0, .int 0, .ref u1, .ref u2, .ref u3, .ref u4, .ref u5, .ref u6, .ref u7, .ref u8, .null] : List Value).set 13 (.ref u9)) o = some (8, [.ref S, .ref A, .int 0, .int 0, .int 0, .ref u1, .ref u2, .ref u3, .ref u4, .ref u5, .ref u6, .ref u7, .ref u8, .ref u9]) := hup_self _ _ _
  have S9 : hup H9a o (8, ([.ref S, .ref A, .int 0, .int 0, .int 0, .ref u1, .ref u2, .ref u3, .ref u4, .ref u5, .ref u6, .ref u7, .ref u8, .null] : List Value).set 13 (.ref u9)) S = some (103, filR [] 6) := by rw [hup_ne _ _ hoS.symm]; exact S9a
  have A9 : hup H9a o (8, ([.ref S, .ref A, .int 0, .int 0, .int 0, .ref u1, .ref u2, .ref u3, .ref u4, .ref u5, .ref u6, .ref u7, .ref u8, .null] : List Value).set 13 (.ref u9)) A = some (104, filR [] 3) := by rw [hup_ne _ _ hoA.symm]; exact A9a
  have K9 := (K8.tr K9b).set (a := o) (Or.inl (Or.inl rfl)) (8, ([.ref S, .ref A, .int 0, .int 0, .int 0, .ref u1, .ref u2, .ref u3, .ref u4, .ref u5, .ref u6, .ref u7, .ref u8, .null] : List Value).set 13 (.ref u9))
  have OBz9 := ((OBz8.kl K9b).app OBm9).set (a := o) (Or.inl (Or.inl rfl)) (8, ([.ref S, .ref A, .int 0, .int 0, .int 0, .ref u1, .ref u2, .ref u3, .ref u4, .ref u5, .ref u6, .ref u7, .ref u8, .null] : List Value).set 13 (.ref u9))
  have ALz9 := ((ALz8.kl K9b).app ALm9).set (a := o) (Or.inl (Or.inl rfl)) (8, ([.ref S, .ref A, .int 0, .int 0, .int 0, .ref u1, .ref u2, .ref u3, .ref u4, .ref u5, .ref u6, .ref u7, .ref u8, .null] : List Value).set 13 (.ref u9))
  generalize hup H9a o (8, ([.ref S, .ref A, .int 0, .int 0, .int 0, .ref u1, .ref u2, .ref u3, .ref u4, .ref u5, .ref u6, .ref u7, .ref u8, .null] : List Value).set 13 (.ref u9)) = H9 at o9 S9 A9 K9 OBz9 ALz9
  refine WS.widen (k' := 66) (n' := 1825) (Nat.le_of_ble_eq_true rfl) (Nat.le_of_ble_eq_true rfl) ?_
  iterate 2 refine fst1_ok X (dk rfl) rfl ?_
  have hex : ∀ a, a = o → ex3 o S A a := fun a z => Or.inl (Or.inl z)
  have loopA : ∀ (d i : Nat), i + d = 3 → ∀ (hh : AH) (tS : List T4) (N : List (Nat × Nat × List T4)) (l : List (Nat × Value)), lsel l [1, 0] = [(1, vI i), (0, .ref o)] → Tn8 6 tS → N.length = i → hh o = some (8, [.ref S, .ref A, .int 0, .int 0, .int 0, .ref u1, .ref u2, .ref u3, .ref u4, .ref u5, .ref u6, .ref u7, .ref u8, .ref u9]) → hh S = some (103, filR (tS.map (fun t => t.1)) 6) → hh A = some (104, filR (N.map (fun x => x.1)) 3) → OB (ex3 o S A) hh ((((((((([] ++ []) ++ []) ++ []) ++ []) ++ []) ++ []) ++ [(u7, (6, [.ref b7, .ref r7, .ref p7, .int 0, .int 0])), (p7, (4, [.ref d7, .ref e7, vI 0]))]) ++ [(u8, (3, [.ref b8, .ref r8, .ref s8, .ref f8, .ref p8])), (p8, (4, [.ref d8, .ref e8, vI 0]))]) ++ [(u9, (5, [.ref p9])), (p9, (4, [.ref d9, .ref e9, vI 0]))]) → AL (ex3 o S A) hh (((((((((([] ++ []) ++ []) ++ []) ++ []) ++ [(u5, ar5, t5)]) ++ [(u6, ar6, t6)]) ++ []) ++ []) ++ []) ++ N) → KL (ex3 o S A) h hh ((((((((((([] ++ [(u1, q1, 16, ([], false))]) ++ [(u2, q2, 16, ([], false))]) ++ [(u3, q3, 256, ([], false))]) ++ [(u4, q4, 256, ([], false))]) ++ t5) ++ t6) ++ [(b7, c7, 32, ([], false))]) ++ [(b8, c8, 32, ([], false))]) ++ []) ++ tS) ++ N.flatMap (fun x => x.2.2)) ((((((((([] ++ []) ++ []) ++ []) ++ []) ++ []) ++ []) ++ [(r7, 8), (d7, 128), (e7, 128)]) ++ [(r8, 32), (s8, 32), (f8, 8), (d8, 128), (e8, 128)]) ++ [(d9, 128), (e9, 128)]) → WR p la e (rmD 5 140 2500) s m args below meth c D cA B0 2 (fun v h' => v = none ∧ ∃ (S A u1 u2 u3 u4 u5 u6 u7 u8 u9 q1 q2 q3 q4 ar5 ar6 b7 c7 r7 p7 d7 e7 b8 c8 r8 s8 f8 p8 d8 e8 p9 d9 e9 : Nat) (t5 t6 tS : List T4) (N : List (Nat × Nat × List T4)), h' o = some (8, [.ref S, .ref A, .int 0, .int 0, .int 0, .ref u1, .ref u2, .ref u3, .ref u4, .ref u5, .ref u6, .ref u7, .ref u8, .ref u9]) ∧ h' S = some (103, (tS.map (fun t => t.1)).map Value.ref) ∧ h' A = some (104, (N.map (fun x => x.1)).map Value.ref) ∧ Tn8 6 tS ∧ N.length = 3 ∧ OB (fun a => a = o) h' ((((((((([] ++ []) ++ []) ++ []) ++ []) ++ []) ++ []) ++ [(u7, (6, [.ref b7, .ref r7, .ref p7, .int 0, .int 0])), (p7, (4, [.ref d7, .ref e7, vI 0]))]) ++ [(u8, (3, [.ref b8, .ref r8, .ref s8, .ref f8, .ref p8])), (p8, (4, [.ref d8, .ref e8, vI 0]))]) ++ [(u9, (5, [.ref p9])), (p9, (4, [.ref d9, .ref e9, vI 0]))]) ∧ AL (fun a => a = o) h' (((((((((([] ++ []) ++ []) ++ []) ++ []) ++ [(u5, ar5, t5)]) ++ [(u6, ar6, t6)]) ++ []) ++ []) ++ []) ++ N) ∧ KL (fun a => a = o) h h' ((((((((((([] ++ [(u1, q1, 16, ([], false))]) ++ [(u2, q2, 16, ([], false))]) ++ [(u3, q3, 256, ([], false))]) ++ [(u4, q4, 256, ([], false))]) ++ t5) ++ t6) ++ [(b7, c7, 32, ([], false))]) ++ [(b8, c8, 32, ([], false))]) ++ []) ++ tS) ++ N.flatMap (fun x => x.2.2)) ((((((((([] ++ []) ++ []) ++ []) ++ []) ++ []) ++ []) ++ [(r7, 8), (d7, 128), (e7, 128)]) ++ [(r8, 32), (s8, 32), (f8, 8), (d8, 128), (e8, 128)]) ++ [(d9, 128), (e9, 128)])) 171 l [] hh (78 + 18 * i) (1939 + 161 * i) := by
    intro d
    induction d with
    | zero =>
      intro i hi hh tS N l hl hT hN oo SS AA OO LL K
      have hi2 : i = 3 := by omega
      subst hi2
      have hSl : (tS.map (fun t => t.1)).length = 6 := by rw [List.length_map]; exact hT.1
      have hNl : (N.map (fun x => x.1)).length = 3 := by rw [List.length_map]; exact hN
      refine WS.sel [1, 0] hl ?_
      iterate 2 refine fst1_ok X (dk rfl) rfl ?_
      refine br_ok X (dk rfl) rfl (show ((173 : Nat) : Int) + 22 = ((195 : Nat) : Int) from rfl) (fun _ => ?_) (fun c1 => absurd (by decide) c1)
      exact retv_ok X hr hlk (dk rfl) ⟨rfl, ⟨S, A, u1, u2, u3, u4, u5, u6, u7, u8, u9, q1, q2, q3, q4, ar5, ar6, b7, c7, r7, p7, d7, e7, b8, c8, r8, s8, f8, p8, d8, e8, p9, d9, e9, t5, t6, tS, N, oo, by rw [SS, ← hSl, filR_end], by rw [AA, ← hNl, filR_end], hT, hN, fun x hx => ⟨fun z => (OO x hx).1 (hex _ z), (OO x hx).2⟩, fun x hx => (fun w => ⟨w.1, fun z => w.2.1 (hex _ z), fun z => w.2.2.1 (hex _ z), w.2.2.2⟩) (LL x hx), (K.drop hA0).drop hS⟩⟩ (Nat.le_of_ble_eq_true rfl) (Nat.le_of_ble_eq_true rfl)
    | succ d ih =>
      intro i hi hh tS N l hl hT hN oo SS AA OO LL K
      have hNl : (N.map (fun x => x.1)).length = i := by rw [List.length_map]; exact hN
      have f2 : Value.int (nI i + Int32.ofInt 1) = vI (i + 1) := congrArg Value.int (by rw [nI_1', nI_add])
      refine WS.sel [1, 0] hl ?_
      iterate 2 refine fst1_ok X (dk rfl) rfl ?_
      refine br_ok X (dk rfl) rfl (show ((173 : Nat) : Int) + 22 = ((195 : Nat) : Int) from rfl) (fun c1 => absurd c1 (nI_ge (a := i) (b := 3) (by omega) (by omega))) (fun _ => ?_)
      refine fst1_ok X (dk rfl) rfl ?_
      refine getf_ok X flX6_17 (dk rfl) oo rfl ?_
      refine fst1_ok X (dk rfl) rfl ?_
      refine new_ok X nc6_15 (dk rfl) (by show 78 + 18 * i + 1 ≤ 140; omega) (by show 1939 + 161 * i + 1 ≤ 2500; omega) (fun u hu hBu => ?_)
      refine fst1_ok X (dk rfl) rfl ?_
      refine callI_ok (av := []) (r := [.ref u, vI i, .ref A]) X E (n0_init _ (hup_self _ _ _)) lkX0_init mlX6_37 lmX0_init rfl ⟨Nat.le_of_ble_eq_true rfl, Nat.le_of_ble_eq_true rfl⟩ ⟨by show 78 + 18 * i + 1 + 17 ≤ 140; omega, by show 1939 + 161 * i + 1 + 160 ≤ 2500; omega⟩ (Nat.le_of_ble_eq_true rfl) (dk rfl) ?_
      rintro v h2 ⟨rfl, ar, tt, x1, y1, z1, w1, N1⟩
      have K2 := KL.nest (ex := (ex3 o S A)) (xo oo SS AA) hu N1
      have nu : ∀ a, hh a ≠ none → a ≠ u := fun a z y => z (by rw [y]; exact hu)
      have oo2 := N1.1 o _ (nu o (xo oo SS AA _ (Or.inl (Or.inl rfl)))) (by rw [hup_ne _ _ (nu o (xo oo SS AA _ (Or.inl (Or.inl rfl))))]; exact oo)
      have SS2 := N1.1 S _ (nu S (xo oo SS AA _ (Or.inl (Or.inr rfl)))) (by rw [hup_ne _ _ (nu S (xo oo SS AA _ (Or.inl (Or.inr rfl))))]; exact SS)
      have AA2 := N1.1 A _ (nu A (xo oo SS AA _ (Or.inr rfl))) (by rw [hup_ne _ _ (nu A (xo oo SS AA _ (Or.inr rfl)))]; exact AA)
      have nar : ¬ ex3 o S A ar := fun z => xo oo SS AA _ z (by rw [hup_ne _ _ (fun y2 => by rw [y2, hup_self] at w1; cases w1)] at w1; exact w1)
      have LL2 := (LL.kl K2).app (AL.one z1 (nk oo2 SS2 AA2 x1 (by decide) (by decide) (by decide)) nar x1 y1)
      have OO2 := OO.kl K2
      have hln : (filR (N.map (fun x => x.1)) 3).length = 3 := filR_len (by omega)
      refine WS.widen (k' := 78 + 18 * (i + 1)) (n' := 1939 + 161 * (i + 1)) (by show 78 + 18 * i + 1 + 17 ≤ 78 + 18 * (i + 1); omega) (by show 1939 + 161 * i + 1 + 160 ≤ 1939 + 161 * (i + 1); omega) ?_
      refine ast_ok X (Or.inr (Or.inr (Or.inr (Or.inl ⟨rfl, rfl, u, _, rfl, x1⟩)))) (dk rfl) AA2 ⟨nI_pos (by omega), by rw [nI_clamp (by omega), hln]; omega⟩ ?_
      rw [nI_clamp (n := i) (by omega), show (filR (N.map (fun x => x.1)) 3).set i (.ref u) = filR (N.map (fun x => x.1) ++ [u]) 3 by rw [← hNl]; exact filR_set (by omega)]
      have K3 := (K.tr K2).set (a := A) (Or.inr rfl) (104, filR (N.map (fun x => x.1) ++ [u]) 3)
      have LL3 := LL2.set (a := A) (Or.inr rfl) (104, filR (N.map (fun x => x.1) ++ [u]) 3)
      have OO3 := OO2.set (a := A) (Or.inr rfl) (104, filR (N.map (fun x => x.1) ++ [u]) 3)
      have oo3 : hup h2 A (104, filR (N.map (fun x => x.1) ++ [u]) 3) o = some (8, [.ref S, .ref A, .int 0, .int 0, .int 0, .ref u1, .ref u2, .ref u3, .ref u4, .ref u5, .ref u6, .ref u7, .ref u8, .ref u9]) := by rw [hup_ne _ _ hoA]; exact oo2
      have SS3 : hup h2 A (104, filR (N.map (fun x => x.1) ++ [u]) 3) S = some (103, filR (tS.map (fun t => t.1)) 6) := by rw [hup_ne _ _ hSA]; exact SS2
      have AA3 : hup h2 A (104, filR (N.map (fun x => x.1) ++ [u]) 3) A = some (104, filR (N.map (fun x => x.1) ++ [u]) 3) := hup_self _ _ _
      generalize hup h2 A (104, filR (N.map (fun x => x.1) ++ [u]) 3) = h3 at K3 LL3 OO3 oo3 SS3 AA3
      refine fst1_ok X (dk rfl) rfl ?_
      refine br_ok X (dk rfl) rfl (show ((192 : Nat) : Int) + (-21) = ((171 : Nat) : Int) from rfl) (fun _ => ?_) (fun q => absurd trivial q)
      refine WS.sel (l' := [(1, vI (i + 1)), (0, .ref o)]) [1, 0] (by rw [← f2]; rfl) ?_
      refine ih (i + 1) (by omega) h3 tS (N ++ [(u, ar, tt)]) _ rfl hT (by rw [List.length_append, hN]; rfl) oo3 SS3 (by rw [List.map_append]; exact AA3) OO3 (by rw [← List.append_assoc]; exact LL3) ?_
      rw [List.flatMap_append, ← List.append_assoc]
      simpa using K3
  have loopS : ∀ (d i : Nat), i + d = 6 → ∀ (hh : AH) (tS : List T4) (l : List (Nat × Value)), lsel l [1, 0] = [(1, vI i), (0, .ref o)] → Tn8 i tS → hh o = some (8, [.ref S, .ref A, .int 0, .int 0, .int 0, .ref u1, .ref u2, .ref u3, .ref u4, .ref u5, .ref u6, .ref u7, .ref u8, .ref u9]) → hh S = some (103, filR (tS.map (fun t => t.1)) 6) → hh A = some (104, filR [] 3) → OB (ex3 o S A) hh ((((((((([] ++ []) ++ []) ++ []) ++ []) ++ []) ++ []) ++ [(u7, (6, [.ref b7, .ref r7, .ref p7, .int 0, .int 0])), (p7, (4, [.ref d7, .ref e7, vI 0]))]) ++ [(u8, (3, [.ref b8, .ref r8, .ref s8, .ref f8, .ref p8])), (p8, (4, [.ref d8, .ref e8, vI 0]))]) ++ [(u9, (5, [.ref p9])), (p9, (4, [.ref d9, .ref e9, vI 0]))]) → AL (ex3 o S A) hh ((((((((([] ++ []) ++ []) ++ []) ++ []) ++ [(u5, ar5, t5)]) ++ [(u6, ar6, t6)]) ++ []) ++ []) ++ []) → KL (ex3 o S A) h hh (((((((((([] ++ [(u1, q1, 16, ([], false))]) ++ [(u2, q2, 16, ([], false))]) ++ [(u3, q3, 256, ([], false))]) ++ [(u4, q4, 256, ([], false))]) ++ t5) ++ t6) ++ [(b7, c7, 32, ([], false))]) ++ [(b8, c8, 32, ([], false))]) ++ []) ++ tS) ((((((((([] ++ []) ++ []) ++ []) ++ []) ++ []) ++ []) ++ [(r7, 8), (d7, 128), (e7, 128)]) ++ [(r8, 32), (s8, 32), (f8, 8), (d8, 128), (e8, 128)]) ++ [(d9, 128), (e9, 128)]) → WR p la e (rmD 5 140 2500) s m args below meth c D cA B0 2 (fun v h' => v = none ∧ ∃ (S A u1 u2 u3 u4 u5 u6 u7 u8 u9 q1 q2 q3 q4 ar5 ar6 b7 c7 r7 p7 d7 e7 b8 c8 r8 s8 f8 p8 d8 e8 p9 d9 e9 : Nat) (t5 t6 tS : List T4) (N : List (Nat × Nat × List T4)), h' o = some (8, [.ref S, .ref A, .int 0, .int 0, .int 0, .ref u1, .ref u2, .ref u3, .ref u4, .ref u5, .ref u6, .ref u7, .ref u8, .ref u9]) ∧ h' S = some (103, (tS.map (fun t => t.1)).map Value.ref) ∧ h' A = some (104, (N.map (fun x => x.1)).map Value.ref) ∧ Tn8 6 tS ∧ N.length = 3 ∧ OB (fun a => a = o) h' ((((((((([] ++ []) ++ []) ++ []) ++ []) ++ []) ++ []) ++ [(u7, (6, [.ref b7, .ref r7, .ref p7, .int 0, .int 0])), (p7, (4, [.ref d7, .ref e7, vI 0]))]) ++ [(u8, (3, [.ref b8, .ref r8, .ref s8, .ref f8, .ref p8])), (p8, (4, [.ref d8, .ref e8, vI 0]))]) ++ [(u9, (5, [.ref p9])), (p9, (4, [.ref d9, .ref e9, vI 0]))]) ∧ AL (fun a => a = o) h' (((((((((([] ++ []) ++ []) ++ []) ++ []) ++ [(u5, ar5, t5)]) ++ [(u6, ar6, t6)]) ++ []) ++ []) ++ []) ++ N) ∧ KL (fun a => a = o) h h' ((((((((((([] ++ [(u1, q1, 16, ([], false))]) ++ [(u2, q2, 16, ([], false))]) ++ [(u3, q3, 256, ([], false))]) ++ [(u4, q4, 256, ([], false))]) ++ t5) ++ t6) ++ [(b7, c7, 32, ([], false))]) ++ [(b8, c8, 32, ([], false))]) ++ []) ++ tS) ++ N.flatMap (fun x => x.2.2)) ((((((((([] ++ []) ++ []) ++ []) ++ []) ++ []) ++ []) ++ [(r7, 8), (d7, 128), (e7, 128)]) ++ [(r8, 32), (s8, 32), (f8, 8), (d8, 128), (e8, 128)]) ++ [(d9, 128), (e9, 128)])) 132 l [] hh (66 + 2 * i) (1825 + 19 * i) := by
    intro d
    induction d with
    | zero =>
      intro i hi hh tS l hl hT oo SS AA OO LL K
      have hi2 : i = 6 := by omega
      subst hi2
      refine WS.sel [1, 0] hl ?_
      iterate 2 refine fst1_ok X (dk rfl) rfl ?_
      refine br_ok X (dk rfl) rfl (show ((135 : Nat) : Int) + 34 = ((169 : Nat) : Int) from rfl) (fun _ => ?_) (fun c1 => absurd (by decide) c1)
      iterate 2 refine fst1_ok X (dk rfl) rfl ?_
      exact loopA 3 0 rfl hh tS [] _ rfl hT rfl oo SS AA OO (by rw [List.append_nil]; exact LL) (by rw [List.flatMap_nil, List.append_nil]; exact K)
    | succ d ih =>
      intro i hi hh tS l hl hT oo SS AA OO LL K
      have hSl : (tS.map (fun t => t.1)).length = i := by rw [List.length_map]; exact hT.1
      have f2 : Value.int (nI i + Int32.ofInt 1) = vI (i + 1) := congrArg Value.int (by rw [nI_1', nI_add])
      refine WS.sel [1, 0] hl ?_
      iterate 2 refine fst1_ok X (dk rfl) rfl ?_
      refine br_ok X (dk rfl) rfl (show ((135 : Nat) : Int) + 34 = ((169 : Nat) : Int) from rfl) (fun c1 => absurd c1 (nI_ge (a := i) (b := 6) (by omega) (by omega))) (fun _ => ?_)
      refine fst1_ok X (dk rfl) rfl ?_
      refine getf_ok X flX6_11 (dk rfl) oo rfl ?_
      refine fst1_ok X (dk rfl) rfl ?_
      refine new_ok X nc6_9 (dk rfl) (by show 66 + 2 * i + 1 ≤ 140; omega) (by show 1825 + 19 * i + 3 ≤ 2500; omega) (fun u hu hBu => ?_)
      iterate 2 refine fst1_ok X (dk rfl) rfl ?_
      rw [show (Int8.ofInt 16).toInt32 = nI 16 by decide +kernel]
      refine callI_ok (av := [.int (nI 16)]) (r := [.ref u, vI i, .ref S]) X E (n5_init _ (L := 16) (by omega) (hup_self _ _ _)) lkX5_init mlX6_21 lmX5_init rfl ⟨Nat.le_of_ble_eq_true rfl, Nat.le_of_ble_eq_true rfl⟩ ⟨by show 66 + 2 * i + 1 + 1 ≤ 140; omega, by show 1825 + 19 * i + 3 + 16 ≤ 2500; omega⟩ (Nat.le_of_ble_eq_true rfl) (dk rfl) ?_
      rintro v h2 ⟨rfl, w2, hw2, e2⟩
      have K2 := KL.term (ex := (ex3 o S A)) (L := 16) (xo oo SS AA) hu hw2
      rw [← e2] at K2
      have nu : ∀ a, hh a ≠ none → a ≠ u := fun a z y => z (by rw [y]; exact hu)
      have nw : ∀ a, hh a ≠ none → a ≠ w2 := fun a z y => z (by rw [hup_ne _ _ (fun y2 => by rw [y2, hup_self] at hw2; cases hw2)] at hw2; rw [y]; exact hw2)
      have kp2 : ∀ a, hh a ≠ none → h2 a = hh a := fun a z => by rw [e2, hup_ne _ _ (nu a z), hup_ne _ _ (nw a z), hup_ne _ _ (nu a z)]
      have no := xo oo SS AA o (Or.inl (Or.inl rfl))
      have nS := xo oo SS AA S (Or.inl (Or.inr rfl))
      have nA := xo oo SS AA A (Or.inr rfl)
      have oo2 := (kp2 o no).trans oo
      have SS2 := (kp2 S nS).trans SS
      have AA2 := (kp2 A nA).trans AA
      have T2 : TmX h2 u w2 16 ([], false) := (K2.2.2.2.2.2.1 _ List.mem_cons_self).2.2.2.2
      have hln : (filR (tS.map (fun t => t.1)) 6).length = 6 := filR_len (by omega)
      refine WS.widen (k' := 66 + 2 * (i + 1)) (n' := 1825 + 19 * (i + 1)) (by show 66 + 2 * i + 1 + 1 ≤ 66 + 2 * (i + 1); omega) (by show 1825 + 19 * i + 3 + 16 ≤ 1825 + 19 * (i + 1); omega) ?_
      refine ast_ok X (Or.inr (Or.inr (Or.inl ⟨rfl, rfl, u, _, rfl, T2.2.1⟩))) (dk rfl) SS2 ⟨nI_pos (by omega), by rw [nI_clamp (by omega), hln]; omega⟩ ?_
      rw [nI_clamp (n := i) (by omega), show (filR (tS.map (fun t => t.1)) 6).set i (.ref u) = filR (tS.map (fun t => t.1) ++ [u]) 6 by rw [← hSl]; exact filR_set (by omega)]
      have K3 := K2.set (a := S) (Or.inl (Or.inr rfl)) (103, filR (tS.map (fun t => t.1) ++ [u]) 6)
      have T3 : TmX (hup h2 S (103, filR (tS.map (fun t => t.1) ++ [u]) 6)) u w2 16 ([], false) := T2.kp (fun a cc ha hc => by rw [hup_ne _ _ (by rcases ha with rfl | rfl; exact (nu S nS).symm; exact (nw S nS).symm)]; exact hc)
      have OOb : OB (ex3 o S A) hh ((((((((([] ++ []) ++ []) ++ []) ++ []) ++ []) ++ []) ++ [(u7, (6, [.ref b7, .ref r7, .ref p7, .int 0, .int 0])), (p7, (4, [.ref d7, .ref e7, vI 0]))]) ++ [(u8, (3, [.ref b8, .ref r8, .ref s8, .ref f8, .ref p8])), (p8, (4, [.ref d8, .ref e8, vI 0]))]) ++ [(u9, (5, [.ref p9])), (p9, (4, [.ref d9, .ref e9, vI 0]))]) := OO
      have oo3 : hup h2 S (103, filR (tS.map (fun t => t.1) ++ [u]) 6) o = some (8, [.ref S, .ref A, .int 0, .int 0, .int 0, .ref u1, .ref u2, .ref u3, .ref u4, .ref u5, .ref u6, .ref u7, .ref u8, .ref u9]) := by rw [hup_ne _ _ hoS]; exact oo2
      have SS3 : hup h2 S (103, filR (tS.map (fun t => t.1) ++ [u]) 6) S = some (103, filR (tS.map (fun t => t.1) ++ [u]) 6) := hup_self _ _ _
      have AA3 : hup h2 S (103, filR (tS.map (fun t => t.1) ++ [u]) 6) A = some (104, filR [] 3) := by rw [hup_ne _ _ hSA.symm]; exact AA2
      generalize hup h2 S (103, filR (tS.map (fun t => t.1) ++ [u]) 6) = h3 at K3 T3 oo3 SS3 AA3
      refine fst1_ok X (dk rfl) rfl ?_
      refine getf_ok X flX6_11 (dk rfl) oo3 rfl ?_
      refine fst1_ok X (dk rfl) rfl ?_
      refine ald_ok X (Or.inr (Or.inr ⟨rfl, by decide, by decide⟩)) (dk rfl) SS3 (inA_nI (v := .ref u) (by omega) (by rw [← hSl]; exact filR_at _ u 6)) ?_
      refine fst1_ok X (dk rfl) rfl ?_
      refine callV_ok (ci := 7) (T := TX5) (N := 3) (av := [vI i]) (r := []) X E (n5_becomeName h3 T3 (by decide) (by decide) i) lkX5_becomeName mlX6_66 lmX5_becomeName lpX5_becomeName ⟨Nat.le_of_ble_eq_true rfl, Nat.le_of_ble_eq_true rfl⟩ ⟨by show 66 + 2 * (i + 1) ≤ 140; omega, by show 1825 + 19 * (i + 1) ≤ 2500; omega⟩ rfl T3.2.1 (Nat.le_of_ble_eq_true rfl) (dk rfl) ?_
      rintro v h4 ⟨rfl, T4', f4⟩
      have K4b := K3.bn T4' f4
      have K4 := K.tr K4b
      refine fst1_ok X (dk rfl) rfl ?_
      refine br_ok X (dk rfl) rfl (show ((166 : Nat) : Int) + (-34) = ((132 : Nat) : Int) from rfl) (fun _ => ?_) (fun q => absurd trivial q)
      refine WS.sel (l' := [(1, vI (i + 1)), (0, .ref o)]) [1, 0] (by rw [← f2]; rfl) ?_
      refine WS.widen (k' := 66 + 2 * (i + 1)) (n' := 1825 + 19 * (i + 1)) (Nat.le_refl _) (Nat.le_refl _) ?_
      refine ih (i + 1) (by omega) h4 (tS ++ [(u, w2, 16, ([nI i], false))]) _ rfl (hT.add u w2) (by rw [f4 o (nu o no) (nw o no)]; exact oo3) (by rw [f4 S (nu S nS) (nw S nS), List.map_append]; exact SS3) (by rw [f4 A (nu A nA) (nw A nA)]; exact AA3) (OOb.kl K4b) (LL.kl K4b) ?_
      rw [← List.append_assoc]
      simpa using K4
  exact loopS 6 0 rfl H9 [] _ rfl ⟨rfl, fun n hn => absurd hn (Nat.not_lt_zero n)⟩ o9 S9 A9 OBz9 ALz9 (by rw [List.append_nil]; exact K9)
end F03
