/-! the constructor of the class, and knock (printed by wip/p40/genInit3.py) -/
/-- the class's object; its own type set apart -/
def BmS (Γ : TY) (b : Nat) (kn : Int32) : Prop := ∃ (Γ0 : TY) (S A sp os wd ow sa oa bs bc sh : Nat) (ss as : List Nat), Γ0 b = none ∧ KG Γ0 ∧ Γ = tup Γ0 b (objφ S A sp os wd ow sa oa bs bc sh kn) ∧ Γ0 S = some (isφ (103, ss.map Value.ref)) ∧ Γ0 A = some (isφ (104, as.map Value.ref)) ∧ ss.length = 6 ∧ (∀ t ∈ ss, TermT Γ0 t 16) ∧ as.length = 3 ∧ (∀ t ∈ as, AnsT Γ0 t) ∧
  TermT Γ0 sp 16 ∧ TermT Γ0 os 16 ∧ TermT Γ0 wd 256 ∧ TermT Γ0 ow 256 ∧ AnsT Γ0 sa ∧ AnsT Γ0 oa ∧ StepsT Γ0 bs ∧ ClassT Γ0 bc ∧ ShapeT Γ0 sh
theorem BmS.toT {Γ : TY} {b : Nat} {kn : Int32} (H : BmS Γ b kn) : BmT Γ b kn := by
  obtain ⟨Γ0, S, A, sp, os, wd, ow, sa, oa, bs, bc, sh, ss, as, g0, k0, rfl, gS, gA, sl, sT, al, aT, t1, t2, t3, t4, t5, t6, t7, t8, t9⟩ := H
  have z := tup_sub g0 (objφ S A sp os wd ow sa oa bs bc sh kn)
  exact ⟨S, A, sp, os, wd, ow, sa, oa, bs, bc, sh, ss, as, tup_self _ _ _, z _ _ gS, z _ _ gA, sl, fun t ht => (sT t ht).mono z, al, fun t ht => (aT t ht).mono z, t1.mono z, t2.mono z, t3.mono z, t4.mono z, t5.mono z, t6.mono z, t7.mono z, t8.mono z, t9.mono z⟩
theorem BmS.kg {Γ : TY} {b : Nat} {kn : Int32} (H : BmS Γ b kn) : KG Γ := by
  obtain ⟨Γ0, S, A, sp, os, wd, ow, sa, oa, bs, bc, sh, ss, as, g0, k0, rfl, -⟩ := H
  exact k0.add ck_obj
section M98e
variable {la : Launch} {D : va_G} {cA : Nat → ClassId} {B0 pa : Nat}
set_option maxHeartbeats 4000000 in
theorem c6_knock (h : AH) {Γ : TY} (I : Tyg Γ h) {o0 : Nat} {kn : Int32} (T0 : BmS Γ o0 kn) : CT la D cA B0 pa yX6_knock cX6_knock 1 (some .int) (rmD 0 0 0) [.ref o0] h (fun v h' => v = some (.int (kn + Int32.ofInt 1)) ∧ Kds Γ h h' ∧ ∃ Γ', BmS Γ' o0 (kn + Int32.ofInt 1) ∧ Tyg Γ' h') := by
  refine CT_of (by decide +kernel) (Nat.le_of_ble_eq_true rfl) ?_
  intro p e s m args below meth c X E hr hlk hnm
  have dk : ∀ {pc : Nat} {q : Instr × Nat}, lkd DX6_knock pc = some q → decode cX6_knock pc = .ok q := lkd_ok DX6_knock_ok
  obtain ⟨Γ0, S, A, sp, os, wd, ow, sa, oa, bs, bc, sh, ss, as, g0, k0, eΓ, rest⟩ := T0
  have gb : Γ o0 = some (objφ S A sp os wd ow sa oa bs bc sh kn) := by rw [eΓ]; exact tup_self _ _ _
  obtain ⟨dn, rf, hx⟩ := bm_open I gb
  iterate 2 refine fst1_ok X (dk rfl) rfl ?_
  refine getf_ok X flX6_248 (dk rfl) hx rfl ?_
  iterate 2 refine fst1_ok X (dk rfl) rfl ?_
  refine putf_ok X flX6_248 ftX6_4 (Or.inl rfl) rfl rfl (dk rfl) hx (Nat.le_of_ble_eq_true rfl) ?_
  refine fst1_ok X (dk rfl) rfl ?_
  refine getf_ok X flX6_248 (dk rfl) (hup_self _ _ _) rfl ?_
  refine reti_ok X hr hlk rfl (dk rfl) ⟨rfl, fun a c ha ga => ?_, tup Γ0 o0 (objφ S A sp os wd ow sa oa bs bc sh (kn + Int32.ofInt 1)), ⟨Γ0, S, A, sp, os, wd, ow, sa, oa, bs, bc, sh, ss, as, g0, k0, rfl, rest⟩, ?_⟩ (Nat.le_refl _) (Nat.le_refl _)
  · rw [hup_ne _ _ (fun z => by rw [z, gb] at ga; cases ga)]
    exact ha
  · have I0 : Tyg Γ0 h := fun a φ e => I a φ (by rw [eΓ]; exact tup_sub g0 _ _ _ e)
    exact (I0.setc g0 _).add (hup_self _ _ _) ⟨dn, rf, rfl⟩
set_option maxHeartbeats 32000000 in
theorem c6_init (h : AH) {Γ : TY} (I : Tyg Γ h) (K : KG Γ) {o : Nat} (ho : h o = some (8, [.null, .null, .int 0, .int 0, .int 0, .null, .null, .null, .null, .null, .null, .null, .null, .null])) (go : Γ o = none) : CT la D cA B0 pa yX6_init cX6_init 2 none (rmD 5 140 2500) [.ref o] h (fun v h' => v = none ∧ NewP Γ o h (fun Γ' => BmS Γ' o 0) h') := by
  refine CT_of (by decide +kernel) (Nat.le_of_ble_eq_true rfl) ?_
  intro p e s m args below meth c X E hr hlk hnm
  have dk : ∀ {pc : Nat} {q : Instr × Nat}, lkd DX6_init pc = some q → decode cX6_init pc = .ok q := lkd_ok DX6_init_ok
  refine fst1_ok X (dk rfl) rfl ?_
  refine obj_ok X ml6_obj (dk rfl) (Nat.le_of_ble_eq_true rfl) (Nat.le_of_ble_eq_true rfl) (Nat.le_of_ble_eq_true rfl) ?_
  iterate 2 refine fst1_ok X (dk rfl) rfl ?_
  rw [show (Int8.ofInt 6).toInt32 = nI 6 by decide +kernel]
  refine newR_ok (N := 6) (kd := 103) X E (by decide) clX6_9 (by decide) (dk rfl) (Nat.le_of_ble_eq_true rfl) (Nat.le_of_ble_eq_true rfl) (fun S hS hBS => ?_)
  have hoS : o ≠ S := fun z => by rw [z, hS] at ho; cases ho
  refine putf_ok X flX6_11 ftX6_0 (Or.inr ⟨by rw [hnm]; rfl, RX6, TX6, 14, rfl, rfl⟩) rfl rfl (dk rfl) (by rw [hup_ne _ _ hoS]; exact ho) (Nat.le_of_ble_eq_true rfl) ?_
  have oa1 : hup (hup h S (103, List.replicate 6 Value.null)) o (8, [Value.null, .null, .int 0, .int 0, .int 0, .null, .null, .null, .null, .null, .null, .null, .null, .null].set 0 (.ref S)) o = some (8, [Value.ref S, .null, .int 0, .int 0, .int 0, .null, .null, .null, .null, .null, .null, .null, .null, .null]) := hup_self _ _ _
  have ha1 : ∀ (a : Nat), a ≠ o → a ≠ S → hup (hup h S (103, List.replicate 6 Value.null)) o (8, [Value.null, .null, .int 0, .int 0, .int 0, .null, .null, .null, .null, .null, .null, .null, .null, .null].set 0 (.ref S)) a = h a := fun a z1 z2 => by rw [hup_ne _ _ z1, hup_ne _ _ z2]
  have hS1 : hup (hup h S (103, List.replicate 6 Value.null)) o (8, [Value.null, .null, .int 0, .int 0, .int 0, .null, .null, .null, .null, .null, .null, .null, .null, .null].set 0 (.ref S)) S = some (103, filR [] 6) := by rw [hup_ne _ _ hoS.symm, hup_self, filR_0]
  have Ia1 : Tyg Γ (hup (hup h S (103, List.replicate 6 Value.null)) o (8, [Value.null, .null, .int 0, .int 0, .int 0, .null, .null, .null, .null, .null, .null, .null, .null, .null].set 0 (.ref S))) := (I.newc hS _).setc go _
  generalize hup (hup h S (103, List.replicate 6 Value.null)) o (8, [Value.null, .null, .int 0, .int 0, .int 0, .null, .null, .null, .null, .null, .null, .null, .null, .null].set 0 (.ref S)) = h1 at oa1 ha1 hS1 Ia1
  iterate 2 refine fst1_ok X (dk rfl) rfl ?_
  rw [show Int32.ofInt 3 = nI 3 by decide +kernel]
  refine newR_ok (N := 3) (kd := 104) X E (by decide) clX6_15 (by decide) (dk rfl) (Nat.le_of_ble_eq_true rfl) (Nat.le_of_ble_eq_true rfl) (fun A hA hBA => ?_)
  have hoA : o ≠ A := fun z => by rw [z, hA] at oa1; cases oa1
  have hSA : S ≠ A := fun z => by rw [z, hA] at hS1; cases hS1
  refine putf_ok X flX6_17 ftX6_1 (Or.inr ⟨by rw [hnm]; rfl, RX6, TX6, 14, rfl, rfl⟩) rfl rfl (dk rfl) (by rw [hup_ne _ _ hoA]; exact oa1) (Nat.le_of_ble_eq_true rfl) ?_
  have ob : hup (hup h1 A (104, List.replicate 3 Value.null)) o (8, [Value.ref S, .null, .int 0, .int 0, .int 0, .null, .null, .null, .null, .null, .null, .null, .null, .null].set 1 (.ref A)) o = some (8, [Value.ref S, .ref A, .int 0, .int 0, .int 0, .null, .null, .null, .null, .null, .null, .null, .null, .null]) := hup_self _ _ _
  have hb : ∀ (a : Nat) (c : AC), a ≠ o → Γ a = none → h a = some c → hup (hup h1 A (104, List.replicate 3 Value.null)) o (8, [Value.ref S, .null, .int 0, .int 0, .int 0, .null, .null, .null, .null, .null, .null, .null, .null, .null].set 1 (.ref A)) a = some c := fun a c z1 z2 z3 => by
    have y1 : a ≠ S := fun z => by rw [z, hS] at z3; cases z3
    have y2 : h1 a = some c := by rw [ha1 a z1 y1]; exact z3
    rw [hup_ne _ _ z1, hup_ne _ _ (fun z => by rw [z, hA] at y2; cases y2)]
    exact y2
  have hSb : hup (hup h1 A (104, List.replicate 3 Value.null)) o (8, [Value.ref S, .null, .int 0, .int 0, .int 0, .null, .null, .null, .null, .null, .null, .null, .null, .null].set 1 (.ref A)) S = some (103, filR [] 6) := by rw [hup_ne _ _ hoS.symm, hup_ne _ _ hSA]; exact hS1
  have hAb : hup (hup h1 A (104, List.replicate 3 Value.null)) o (8, [Value.ref S, .null, .int 0, .int 0, .int 0, .null, .null, .null, .null, .null, .null, .null, .null, .null].set 1 (.ref A)) A = some (104, filR [] 3) := by rw [hup_ne _ _ hoA.symm, hup_self, filR_0]
  have Ib : Tyg Γ (hup (hup h1 A (104, List.replicate 3 Value.null)) o (8, [Value.ref S, .null, .int 0, .int 0, .int 0, .null, .null, .null, .null, .null, .null, .null, .null, .null].set 1 (.ref A))) := (Ia1.newc hA _).setc go _
  have gSn : Γ S = none := I.fresh hS
  have gAn : Γ A = none := Ia1.fresh hA
  generalize hup (hup h1 A (104, List.replicate 3 Value.null)) o (8, [Value.ref S, .null, .int 0, .int 0, .int 0, .null, .null, .null, .null, .null, .null, .null, .null, .null].set 1 (.ref A)) = hB at ob hb hSb hAb Ib
  have hAh : ∀ c : AC, ¬ h A = some c := fun c z => by
    have y := ha1 A hoA.symm hSA.symm
    rw [hA, z] at y
    cases y
  clear Ia1 hS1 ha1 oa1
  refine fst1_ok X (dk rfl) rfl ?_
  refine new_ok X nc6_9 (dk rfl) (by first | exact Nat.le_of_ble_eq_true rfl | (show _ ≤ _; omega)) (by first | exact Nat.le_of_ble_eq_true rfl | (show _ ≤ _; omega)) (fun q1 hq1 hBq1 => ?_)
  iterate 2 refine fst1_ok X (dk rfl) rfl ?_
  rw [show (Int8.ofInt 16).toInt32 = nI 16 by decide +kernel]
  refine callI_ok (av := [.int (nI 16)]) (r := [.ref q1, .ref o]) X E (c5_init _ (Ib.newc hq1 _) K (L := 16) (by omega) (hup_self _ _ _) (Ib.fresh hq1)) lkX5_init mlX6_21 lmX5_init rfl ⟨Nat.le_of_ble_eq_true rfl, Nat.le_of_ble_eq_true rfl⟩ ⟨Nat.le_of_ble_eq_true rfl, Nat.le_of_ble_eq_true rfl⟩ (Nat.le_of_ble_eq_true rfl) (dk rfl) ?_
  rintro v H1a ⟨rfl, N1⟩
  obtain ⟨G1, s1, t1, I1a, K1, f1⟩ := N1.toQ hq1
  obtain ⟨o1a, go1⟩ := f1 _ _ go ob
  refine putf_ok X flX6_24 ftX6_5 (Or.inr ⟨by rw [hnm]; rfl, RX6, TX6, 14, rfl, rfl⟩) rfl rfl (dk rfl) o1a (Nat.le_of_ble_eq_true rfl) ?_
  have o1 : hup H1a o (8, [Value.ref S, .ref A, .int 0, .int 0, .int 0, .null, .null, .null, .null, .null, .null, .null, .null, .null].set 5 (.ref q1)) o = some (8, [.ref S, .ref A, .int 0, .int 0, .int 0, .ref q1, .null, .null, .null, .null, .null, .null, .null, .null]) := hup_self _ _ _
  have I1 : Tyg G1 (hup H1a o (8, [Value.ref S, .ref A, .int 0, .int 0, .int 0, .null, .null, .null, .null, .null, .null, .null, .null, .null].set 5 (.ref q1))) := I1a.setc go1 _
  have F1 : ∀ (a : Nat) (c : AC), a ≠ o → Γ a = none → hB a = some c → hup H1a o (8, [Value.ref S, .ref A, .int 0, .int 0, .int 0, .null, .null, .null, .null, .null, .null, .null, .null, .null].set 5 (.ref q1)) a = some c ∧ G1 a = none := fun a c ha ga hc => by
    obtain ⟨u1, u2⟩ := (show hB a = some c ∧ Γ a = none from ⟨hc, ga⟩)
    obtain ⟨u3, u4⟩ := f1 a c u2 u1
    rw [hup_ne _ _ ha]
    exact ⟨u3, u4⟩
  have S1 : Sub Γ G1 := s1
  generalize hup H1a o (8, [Value.ref S, .ref A, .int 0, .int 0, .int 0, .null, .null, .null, .null, .null, .null, .null, .null, .null].set 5 (.ref q1)) = H1 at o1 I1 F1 
  refine fst1_ok X (dk rfl) rfl ?_
  refine new_ok X nc6_9 (dk rfl) (by first | exact Nat.le_of_ble_eq_true rfl | (show _ ≤ _; omega)) (by first | exact Nat.le_of_ble_eq_true rfl | (show _ ≤ _; omega)) (fun q2 hq2 hBq2 => ?_)
  iterate 2 refine fst1_ok X (dk rfl) rfl ?_
  rw [show (Int8.ofInt 16).toInt32 = nI 16 by decide +kernel]
  refine callI_ok (av := [.int (nI 16)]) (r := [.ref q2, .ref o]) X E (c5_init _ (I1.newc hq2 _) K1 (L := 16) (by omega) (hup_self _ _ _) (I1.fresh hq2)) lkX5_init mlX6_21 lmX5_init rfl ⟨Nat.le_of_ble_eq_true rfl, Nat.le_of_ble_eq_true rfl⟩ ⟨Nat.le_of_ble_eq_true rfl, Nat.le_of_ble_eq_true rfl⟩ (Nat.le_of_ble_eq_true rfl) (dk rfl) ?_
  rintro v H2a ⟨rfl, N2⟩
  obtain ⟨G2, s2, t2, I2a, K2, f2⟩ := N2.toQ hq2
  obtain ⟨o2a, go2⟩ := f2 _ _ go1 o1
  refine putf_ok X flX6_28 ftX6_6 (Or.inr ⟨by rw [hnm]; rfl, RX6, TX6, 14, rfl, rfl⟩) rfl rfl (dk rfl) o2a (Nat.le_of_ble_eq_true rfl) ?_
  have o2 : hup H2a o (8, [.ref S, .ref A, .int 0, .int 0, .int 0, .ref q1, .null, .null, .null, .null, .null, .null, .null, .null].set 6 (.ref q2)) o = some (8, [.ref S, .ref A, .int 0, .int 0, .int 0, .ref q1, .ref q2, .null, .null, .null, .null, .null, .null, .null]) := hup_self _ _ _
  have I2 : Tyg G2 (hup H2a o (8, [.ref S, .ref A, .int 0, .int 0, .int 0, .ref q1, .null, .null, .null, .null, .null, .null, .null, .null].set 6 (.ref q2))) := I2a.setc go2 _
  have F2 : ∀ (a : Nat) (c : AC), a ≠ o → Γ a = none → hB a = some c → hup H2a o (8, [.ref S, .ref A, .int 0, .int 0, .int 0, .ref q1, .null, .null, .null, .null, .null, .null, .null, .null].set 6 (.ref q2)) a = some c ∧ G2 a = none := fun a c ha ga hc => by
    obtain ⟨u1, u2⟩ := F1 a c ha ga hc
    obtain ⟨u3, u4⟩ := f2 a c u2 u1
    rw [hup_ne _ _ ha]
    exact ⟨u3, u4⟩
  have S2 : Sub Γ G2 := S1.trans s2
  generalize hup H2a o (8, [.ref S, .ref A, .int 0, .int 0, .int 0, .ref q1, .null, .null, .null, .null, .null, .null, .null, .null].set 6 (.ref q2)) = H2 at o2 I2 F2 
  refine fst1_ok X (dk rfl) rfl ?_
  refine new_ok X nc6_9 (dk rfl) (by first | exact Nat.le_of_ble_eq_true rfl | (show _ ≤ _; omega)) (by first | exact Nat.le_of_ble_eq_true rfl | (show _ ≤ _; omega)) (fun q3 hq3 hBq3 => ?_)
  iterate 2 refine fst1_ok X (dk rfl) rfl ?_
  rw [show (Int16.ofInt 256).toInt32 = nI 256 by decide +kernel]
  refine callI_ok (av := [.int (nI 256)]) (r := [.ref q3, .ref o]) X E (c5_init _ (I2.newc hq3 _) K2 (L := 256) (by omega) (hup_self _ _ _) (I2.fresh hq3)) lkX5_init mlX6_21 lmX5_init rfl ⟨Nat.le_of_ble_eq_true rfl, Nat.le_of_ble_eq_true rfl⟩ ⟨Nat.le_of_ble_eq_true rfl, Nat.le_of_ble_eq_true rfl⟩ (Nat.le_of_ble_eq_true rfl) (dk rfl) ?_
  rintro v H3a ⟨rfl, N3⟩
  obtain ⟨G3, s3, t3, I3a, K3, f3⟩ := N3.toQ hq3
  obtain ⟨o3a, go3⟩ := f3 _ _ go2 o2
  refine putf_ok X flX6_31 ftX6_7 (Or.inr ⟨by rw [hnm]; rfl, RX6, TX6, 14, rfl, rfl⟩) rfl rfl (dk rfl) o3a (Nat.le_of_ble_eq_true rfl) ?_
  have o3 : hup H3a o (8, [.ref S, .ref A, .int 0, .int 0, .int 0, .ref q1, .ref q2, .null, .null, .null, .null, .null, .null, .null].set 7 (.ref q3)) o = some (8, [.ref S, .ref A, .int 0, .int 0, .int 0, .ref q1, .ref q2, .ref q3, .null, .null, .null, .null, .null, .null]) := hup_self _ _ _
  have I3 : Tyg G3 (hup H3a o (8, [.ref S, .ref A, .int 0, .int 0, .int 0, .ref q1, .ref q2, .null, .null, .null, .null, .null, .null, .null].set 7 (.ref q3))) := I3a.setc go3 _
  have F3 : ∀ (a : Nat) (c : AC), a ≠ o → Γ a = none → hB a = some c → hup H3a o (8, [.ref S, .ref A, .int 0, .int 0, .int 0, .ref q1, .ref q2, .null, .null, .null, .null, .null, .null, .null].set 7 (.ref q3)) a = some c ∧ G3 a = none := fun a c ha ga hc => by
    obtain ⟨u1, u2⟩ := F2 a c ha ga hc
    obtain ⟨u3, u4⟩ := f3 a c u2 u1
    rw [hup_ne _ _ ha]
    exact ⟨u3, u4⟩
  have S3 : Sub Γ G3 := S2.trans s3
  generalize hup H3a o (8, [.ref S, .ref A, .int 0, .int 0, .int 0, .ref q1, .ref q2, .null, .null, .null, .null, .null, .null, .null].set 7 (.ref q3)) = H3 at o3 I3 F3 
  refine fst1_ok X (dk rfl) rfl ?_
  refine new_ok X nc6_9 (dk rfl) (by first | exact Nat.le_of_ble_eq_true rfl | (show _ ≤ _; omega)) (by first | exact Nat.le_of_ble_eq_true rfl | (show _ ≤ _; omega)) (fun q4 hq4 hBq4 => ?_)
  iterate 2 refine fst1_ok X (dk rfl) rfl ?_
  rw [show (Int16.ofInt 256).toInt32 = nI 256 by decide +kernel]
  refine callI_ok (av := [.int (nI 256)]) (r := [.ref q4, .ref o]) X E (c5_init _ (I3.newc hq4 _) K3 (L := 256) (by omega) (hup_self _ _ _) (I3.fresh hq4)) lkX5_init mlX6_21 lmX5_init rfl ⟨Nat.le_of_ble_eq_true rfl, Nat.le_of_ble_eq_true rfl⟩ ⟨Nat.le_of_ble_eq_true rfl, Nat.le_of_ble_eq_true rfl⟩ (Nat.le_of_ble_eq_true rfl) (dk rfl) ?_
  rintro v H4a ⟨rfl, N4⟩
  obtain ⟨G4, s4, t4, I4a, K4, f4⟩ := N4.toQ hq4
  obtain ⟨o4a, go4⟩ := f4 _ _ go3 o3
  refine putf_ok X flX6_34 ftX6_8 (Or.inr ⟨by rw [hnm]; rfl, RX6, TX6, 14, rfl, rfl⟩) rfl rfl (dk rfl) o4a (Nat.le_of_ble_eq_true rfl) ?_
  have o4 : hup H4a o (8, [.ref S, .ref A, .int 0, .int 0, .int 0, .ref q1, .ref q2, .ref q3, .null, .null, .null, .null, .null, .null].set 8 (.ref q4)) o = some (8, [.ref S, .ref A, .int 0, .int 0, .int 0, .ref q1, .ref q2, .ref q3, .ref q4, .null, .null, .null, .null, .null]) := hup_self _ _ _
  have I4 : Tyg G4 (hup H4a o (8, [.ref S, .ref A, .int 0, .int 0, .int 0, .ref q1, .ref q2, .ref q3, .null, .null, .null, .null, .null, .null].set 8 (.ref q4))) := I4a.setc go4 _
  have F4 : ∀ (a : Nat) (c : AC), a ≠ o → Γ a = none → hB a = some c → hup H4a o (8, [.ref S, .ref A, .int 0, .int 0, .int 0, .ref q1, .ref q2, .ref q3, .null, .null, .null, .null, .null, .null].set 8 (.ref q4)) a = some c ∧ G4 a = none := fun a c ha ga hc => by
    obtain ⟨u1, u2⟩ := F3 a c ha ga hc
    obtain ⟨u3, u4⟩ := f4 a c u2 u1
    rw [hup_ne _ _ ha]
    exact ⟨u3, u4⟩
  have S4 : Sub Γ G4 := S3.trans s4
  generalize hup H4a o (8, [.ref S, .ref A, .int 0, .int 0, .int 0, .ref q1, .ref q2, .ref q3, .null, .null, .null, .null, .null, .null].set 8 (.ref q4)) = H4 at o4 I4 F4 
  refine fst1_ok X (dk rfl) rfl ?_
  refine new_ok X nc6_15 (dk rfl) (by first | exact Nat.le_of_ble_eq_true rfl | (show _ ≤ _; omega)) (by first | exact Nat.le_of_ble_eq_true rfl | (show _ ≤ _; omega)) (fun q5 hq5 hBq5 => ?_)
  iterate 1 refine fst1_ok X (dk rfl) rfl ?_
  refine callI_ok (av := []) (r := [.ref q5, .ref o]) X E (c0_init _ (I4.newc hq5 _) K4 (hup_self _ _ _) (I4.fresh hq5)) lkX0_init mlX6_37 lmX0_init rfl ⟨Nat.le_of_ble_eq_true rfl, Nat.le_of_ble_eq_true rfl⟩ ⟨Nat.le_of_ble_eq_true rfl, Nat.le_of_ble_eq_true rfl⟩ (Nat.le_of_ble_eq_true rfl) (dk rfl) ?_
  rintro v H5a ⟨rfl, N5⟩
  obtain ⟨G5, s5, t5, I5a, K5, f5⟩ := N5.toQ hq5
  obtain ⟨o5a, go5⟩ := f5 _ _ go4 o4
  refine putf_ok X flX6_38 ftX6_9 (Or.inr ⟨by rw [hnm]; rfl, RX6, TX6, 14, rfl, rfl⟩) rfl rfl (dk rfl) o5a (Nat.le_of_ble_eq_true rfl) ?_
  have o5 : hup H5a o (8, [.ref S, .ref A, .int 0, .int 0, .int 0, .ref q1, .ref q2, .ref q3, .ref q4, .null, .null, .null, .null, .null].set 9 (.ref q5)) o = some (8, [.ref S, .ref A, .int 0, .int 0, .int 0, .ref q1, .ref q2, .ref q3, .ref q4, .ref q5, .null, .null, .null, .null]) := hup_self _ _ _
  have I5 : Tyg G5 (hup H5a o (8, [.ref S, .ref A, .int 0, .int 0, .int 0, .ref q1, .ref q2, .ref q3, .ref q4, .null, .null, .null, .null, .null].set 9 (.ref q5))) := I5a.setc go5 _
  have F5 : ∀ (a : Nat) (c : AC), a ≠ o → Γ a = none → hB a = some c → hup H5a o (8, [.ref S, .ref A, .int 0, .int 0, .int 0, .ref q1, .ref q2, .ref q3, .ref q4, .null, .null, .null, .null, .null].set 9 (.ref q5)) a = some c ∧ G5 a = none := fun a c ha ga hc => by
    obtain ⟨u1, u2⟩ := F4 a c ha ga hc
    obtain ⟨u3, u4⟩ := f5 a c u2 u1
    rw [hup_ne _ _ ha]
    exact ⟨u3, u4⟩
  have S5 : Sub Γ G5 := S4.trans s5
  generalize hup H5a o (8, [.ref S, .ref A, .int 0, .int 0, .int 0, .ref q1, .ref q2, .ref q3, .ref q4, .null, .null, .null, .null, .null].set 9 (.ref q5)) = H5 at o5 I5 F5 
  refine fst1_ok X (dk rfl) rfl ?_
  refine new_ok X nc6_15 (dk rfl) (by first | exact Nat.le_of_ble_eq_true rfl | (show _ ≤ _; omega)) (by first | exact Nat.le_of_ble_eq_true rfl | (show _ ≤ _; omega)) (fun q6 hq6 hBq6 => ?_)
  iterate 1 refine fst1_ok X (dk rfl) rfl ?_
  refine callI_ok (av := []) (r := [.ref q6, .ref o]) X E (c0_init _ (I5.newc hq6 _) K5 (hup_self _ _ _) (I5.fresh hq6)) lkX0_init mlX6_37 lmX0_init rfl ⟨Nat.le_of_ble_eq_true rfl, Nat.le_of_ble_eq_true rfl⟩ ⟨Nat.le_of_ble_eq_true rfl, Nat.le_of_ble_eq_true rfl⟩ (Nat.le_of_ble_eq_true rfl) (dk rfl) ?_
  rintro v H6a ⟨rfl, N6⟩
  obtain ⟨G6, s6, t6, I6a, K6, f6⟩ := N6.toQ hq6
  obtain ⟨o6a, go6⟩ := f6 _ _ go5 o5
  refine putf_ok X flX6_42 ftX6_10 (Or.inr ⟨by rw [hnm]; rfl, RX6, TX6, 14, rfl, rfl⟩) rfl rfl (dk rfl) o6a (Nat.le_of_ble_eq_true rfl) ?_
  have o6 : hup H6a o (8, [.ref S, .ref A, .int 0, .int 0, .int 0, .ref q1, .ref q2, .ref q3, .ref q4, .ref q5, .null, .null, .null, .null].set 10 (.ref q6)) o = some (8, [.ref S, .ref A, .int 0, .int 0, .int 0, .ref q1, .ref q2, .ref q3, .ref q4, .ref q5, .ref q6, .null, .null, .null]) := hup_self _ _ _
  have I6 : Tyg G6 (hup H6a o (8, [.ref S, .ref A, .int 0, .int 0, .int 0, .ref q1, .ref q2, .ref q3, .ref q4, .ref q5, .null, .null, .null, .null].set 10 (.ref q6))) := I6a.setc go6 _
  have F6 : ∀ (a : Nat) (c : AC), a ≠ o → Γ a = none → hB a = some c → hup H6a o (8, [.ref S, .ref A, .int 0, .int 0, .int 0, .ref q1, .ref q2, .ref q3, .ref q4, .ref q5, .null, .null, .null, .null].set 10 (.ref q6)) a = some c ∧ G6 a = none := fun a c ha ga hc => by
    obtain ⟨u1, u2⟩ := F5 a c ha ga hc
    obtain ⟨u3, u4⟩ := f6 a c u2 u1
    rw [hup_ne _ _ ha]
    exact ⟨u3, u4⟩
  have S6 : Sub Γ G6 := S5.trans s6
  generalize hup H6a o (8, [.ref S, .ref A, .int 0, .int 0, .int 0, .ref q1, .ref q2, .ref q3, .ref q4, .ref q5, .null, .null, .null, .null].set 10 (.ref q6)) = H6 at o6 I6 F6 
  refine fst1_ok X (dk rfl) rfl ?_
  refine new_ok X nc6_45 (dk rfl) (by first | exact Nat.le_of_ble_eq_true rfl | (show _ ≤ _; omega)) (by first | exact Nat.le_of_ble_eq_true rfl | (show _ ≤ _; omega)) (fun q7 hq7 hBq7 => ?_)
  iterate 1 refine fst1_ok X (dk rfl) rfl ?_
  refine callIN_ok (av := []) (r := [.ref q7, .ref o]) X E (c4_init _ (I6.newc hq7 _) K6 (hup_self _ _ _) (I6.fresh hq7)) lkX4_init mnX6_47 lmX4_init rfl ⟨Nat.le_of_ble_eq_true rfl, Nat.le_of_ble_eq_true rfl⟩ ⟨Nat.le_of_ble_eq_true rfl, Nat.le_of_ble_eq_true rfl⟩ (Nat.le_of_ble_eq_true rfl) (dk rfl) ?_
  rintro v H7a ⟨rfl, N7⟩
  obtain ⟨G7, s7, t7, I7a, K7, f7⟩ := N7.toQ hq7
  obtain ⟨o7a, go7⟩ := f7 _ _ go6 o6
  refine putf_ok X flX6_48 ftX6_11 (Or.inr ⟨by rw [hnm]; rfl, RX6, TX6, 14, rfl, rfl⟩) rfl rfl (dk rfl) o7a (Nat.le_of_ble_eq_true rfl) ?_
  have o7 : hup H7a o (8, [.ref S, .ref A, .int 0, .int 0, .int 0, .ref q1, .ref q2, .ref q3, .ref q4, .ref q5, .ref q6, .null, .null, .null].set 11 (.ref q7)) o = some (8, [.ref S, .ref A, .int 0, .int 0, .int 0, .ref q1, .ref q2, .ref q3, .ref q4, .ref q5, .ref q6, .ref q7, .null, .null]) := hup_self _ _ _
  have I7 : Tyg G7 (hup H7a o (8, [.ref S, .ref A, .int 0, .int 0, .int 0, .ref q1, .ref q2, .ref q3, .ref q4, .ref q5, .ref q6, .null, .null, .null].set 11 (.ref q7))) := I7a.setc go7 _
  have F7 : ∀ (a : Nat) (c : AC), a ≠ o → Γ a = none → hB a = some c → hup H7a o (8, [.ref S, .ref A, .int 0, .int 0, .int 0, .ref q1, .ref q2, .ref q3, .ref q4, .ref q5, .ref q6, .null, .null, .null].set 11 (.ref q7)) a = some c ∧ G7 a = none := fun a c ha ga hc => by
    obtain ⟨u1, u2⟩ := F6 a c ha ga hc
    obtain ⟨u3, u4⟩ := f7 a c u2 u1
    rw [hup_ne _ _ ha]
    exact ⟨u3, u4⟩
  have S7 : Sub Γ G7 := S6.trans s7
  generalize hup H7a o (8, [.ref S, .ref A, .int 0, .int 0, .int 0, .ref q1, .ref q2, .ref q3, .ref q4, .ref q5, .ref q6, .null, .null, .null].set 11 (.ref q7)) = H7 at o7 I7 F7 
  refine fst1_ok X (dk rfl) rfl ?_
  refine new_ok X nc6_52 (dk rfl) (by first | exact Nat.le_of_ble_eq_true rfl | (show _ ≤ _; omega)) (by first | exact Nat.le_of_ble_eq_true rfl | (show _ ≤ _; omega)) (fun q8 hq8 hBq8 => ?_)
  iterate 1 refine fst1_ok X (dk rfl) rfl ?_
  refine callIN_ok (av := []) (r := [.ref q8, .ref o]) X E (c1_init _ (I7.newc hq8 _) K7 (hup_self _ _ _) (I7.fresh hq8)) lkX1_init mnX6_54 lmX1_init rfl ⟨Nat.le_of_ble_eq_true rfl, Nat.le_of_ble_eq_true rfl⟩ ⟨Nat.le_of_ble_eq_true rfl, Nat.le_of_ble_eq_true rfl⟩ (Nat.le_of_ble_eq_true rfl) (dk rfl) ?_
  rintro v H8a ⟨rfl, N8⟩
  obtain ⟨G8, s8, t8, I8a, K8, f8⟩ := N8.toQ hq8
  obtain ⟨o8a, go8⟩ := f8 _ _ go7 o7
  refine putf_ok X flX6_55 ftX6_12 (Or.inr ⟨by rw [hnm]; rfl, RX6, TX6, 14, rfl, rfl⟩) rfl rfl (dk rfl) o8a (Nat.le_of_ble_eq_true rfl) ?_
  have o8 : hup H8a o (8, [.ref S, .ref A, .int 0, .int 0, .int 0, .ref q1, .ref q2, .ref q3, .ref q4, .ref q5, .ref q6, .ref q7, .null, .null].set 12 (.ref q8)) o = some (8, [.ref S, .ref A, .int 0, .int 0, .int 0, .ref q1, .ref q2, .ref q3, .ref q4, .ref q5, .ref q6, .ref q7, .ref q8, .null]) := hup_self _ _ _
  have I8 : Tyg G8 (hup H8a o (8, [.ref S, .ref A, .int 0, .int 0, .int 0, .ref q1, .ref q2, .ref q3, .ref q4, .ref q5, .ref q6, .ref q7, .null, .null].set 12 (.ref q8))) := I8a.setc go8 _
  have F8 : ∀ (a : Nat) (c : AC), a ≠ o → Γ a = none → hB a = some c → hup H8a o (8, [.ref S, .ref A, .int 0, .int 0, .int 0, .ref q1, .ref q2, .ref q3, .ref q4, .ref q5, .ref q6, .ref q7, .null, .null].set 12 (.ref q8)) a = some c ∧ G8 a = none := fun a c ha ga hc => by
    obtain ⟨u1, u2⟩ := F7 a c ha ga hc
    obtain ⟨u3, u4⟩ := f8 a c u2 u1
    rw [hup_ne _ _ ha]
    exact ⟨u3, u4⟩
  have S8 : Sub Γ G8 := S7.trans s8
  generalize hup H8a o (8, [.ref S, .ref A, .int 0, .int 0, .int 0, .ref q1, .ref q2, .ref q3, .ref q4, .ref q5, .ref q6, .ref q7, .null, .null].set 12 (.ref q8)) = H8 at o8 I8 F8 
  refine fst1_ok X (dk rfl) rfl ?_
  refine new_ok X nc6_59 (dk rfl) (by first | exact Nat.le_of_ble_eq_true rfl | (show _ ≤ _; omega)) (by first | exact Nat.le_of_ble_eq_true rfl | (show _ ≤ _; omega)) (fun q9 hq9 hBq9 => ?_)
  iterate 1 refine fst1_ok X (dk rfl) rfl ?_
  refine callIN_ok (av := []) (r := [.ref q9, .ref o]) X E (c3_init _ (I8.newc hq9 _) K8 (hup_self _ _ _) (I8.fresh hq9)) lkX3_init mnX6_61 lmX3_init rfl ⟨Nat.le_of_ble_eq_true rfl, Nat.le_of_ble_eq_true rfl⟩ ⟨Nat.le_of_ble_eq_true rfl, Nat.le_of_ble_eq_true rfl⟩ (Nat.le_of_ble_eq_true rfl) (dk rfl) ?_
  rintro v H9a ⟨rfl, N9⟩
  obtain ⟨G9, s9, t9, I9a, K9, f9⟩ := N9.toQ hq9
  obtain ⟨o9a, go9⟩ := f9 _ _ go8 o8
  refine putf_ok X flX6_62 ftX6_13 (Or.inr ⟨by rw [hnm]; rfl, RX6, TX6, 14, rfl, rfl⟩) rfl rfl (dk rfl) o9a (Nat.le_of_ble_eq_true rfl) ?_
  have o9 : hup H9a o (8, [.ref S, .ref A, .int 0, .int 0, .int 0, .ref q1, .ref q2, .ref q3, .ref q4, .ref q5, .ref q6, .ref q7, .ref q8, .null].set 13 (.ref q9)) o = some (8, [.ref S, .ref A, .int 0, .int 0, .int 0, .ref q1, .ref q2, .ref q3, .ref q4, .ref q5, .ref q6, .ref q7, .ref q8, .ref q9]) := hup_self _ _ _
  have I9 : Tyg G9 (hup H9a o (8, [.ref S, .ref A, .int 0, .int 0, .int 0, .ref q1, .ref q2, .ref q3, .ref q4, .ref q5, .ref q6, .ref q7, .ref q8, .null].set 13 (.ref q9))) := I9a.setc go9 _
  have F9 : ∀ (a : Nat) (c : AC), a ≠ o → Γ a = none → hB a = some c → hup H9a o (8, [.ref S, .ref A, .int 0, .int 0, .int 0, .ref q1, .ref q2, .ref q3, .ref q4, .ref q5, .ref q6, .ref q7, .ref q8, .null].set 13 (.ref q9)) a = some c ∧ G9 a = none := fun a c ha ga hc => by
    obtain ⟨u1, u2⟩ := F8 a c ha ga hc
    obtain ⟨u3, u4⟩ := f9 a c u2 u1
    rw [hup_ne _ _ ha]
    exact ⟨u3, u4⟩
  have S9 : Sub Γ G9 := S8.trans s9
  generalize hup H9a o (8, [.ref S, .ref A, .int 0, .int 0, .int 0, .ref q1, .ref q2, .ref q3, .ref q4, .ref q5, .ref q6, .ref q7, .ref q8, .null].set 13 (.ref q9)) = H9 at o9 I9 F9 
  refine WS.widen (k' := 66) (n' := 1825) (Nat.le_of_ble_eq_true rfl) (Nat.le_of_ble_eq_true rfl) ?_
  obtain ⟨hS9, gS9⟩ := F9 S _ hoS.symm gSn hSb
  obtain ⟨hA9, gA9⟩ := F9 A _ hoA.symm gAn hAb
  have FS : Fil G9 H9 (fun a => a = o) S 103 6 (fun Γ t => TermT Γ t 16) [] G9 H9 := ⟨Sub.rf _, I9, K9, fun t ht => (by cases ht), hS9, gS9, fun a c _ _ g3 g4 => ⟨g4, g3⟩⟩
  iterate 2 refine fst1_ok X (dk rfl) rfl ?_
  have loopA : ∀ (d i : Nat), i + d = 3 → ∀ (G10 : TY) (H10 : AH) (ss : List Nat) (Γ1 : TY) (hh : AH) (as : List Nat) (l : List (Nat × Value)), lsel l [1, 0] = [(1, vI i), (0, .ref o)] → as.length = i → ss.length = 6 → Fil G9 H9 (fun a => a = o) S 103 6 (fun Γ t => TermT Γ t 16) ss G10 H10 → H10 o = some (8, [.ref S, .ref A, .int 0, .int 0, .int 0, .ref q1, .ref q2, .ref q3, .ref q4, .ref q5, .ref q6, .ref q7, .ref q8, .ref q9]) → G10 o = none → hh o = some (8, [.ref S, .ref A, .int 0, .int 0, .int 0, .ref q1, .ref q2, .ref q3, .ref q4, .ref q5, .ref q6, .ref q7, .ref q8, .ref q9]) → Γ1 o = none → Fil G10 H10 (fun a => a = o) A 104 3 AnsT as Γ1 hh → WR p la e (rmD 5 140 2500) s m args below meth c D cA B0 2 (fun v h' => v = none ∧ NewP Γ o h (fun Γ' => BmS Γ' o 0) h') 171 l [] hh (78 + 18 * i) (1939 + 161 * i) := by
    intro d
    induction d with
    | zero =>
      intro i hi G10 H10 ss Γ1 hh as l hl hla hls FS10 o10 g10 oo gg F
      have hi2 : i = 3 := by omega
      subst hi2
      obtain ⟨a1, a2, a3, a4, a5, a6, a7⟩ := FS10
      obtain ⟨f1, f2, f3, f4, f5, f6, f7⟩ := F
      have S0 : Sub G9 Γ1 := a1.trans f1
      obtain ⟨hSh, gSh⟩ := f7 S _ (Ne.symm hoS) hSA a6 a5
      refine WS.sel [1, 0] hl ?_
      iterate 2 refine fst1_ok X (dk rfl) rfl ?_
      refine br_ok X (dk rfl) rfl (show ((173 : Nat) : Int) + 22 = ((195 : Nat) : Int) from rfl) (fun _ => ?_) (fun c1 => absurd (by decide) c1)
      refine retv_ok X hr hlk (dk rfl) ⟨rfl, tup (tup (tup Γ1 S (isφ (103, ss.map Value.ref))) A (isφ (104, as.map Value.ref))) o (objφ S A q1 q2 q3 q4 q5 q6 q7 q8 q9 0), ?_, ?_, ?_, ?_, ?_, ?_⟩ (Nat.le_of_ble_eq_true rfl) (Nat.le_of_ble_eq_true rfl)
      · exact (S9.trans S0).trans ((tup_sub gSh _).trans ((tup_sub (by rw [tup_ne _ _ hSA.symm]; exact f6) _).trans (tup_sub (by rw [tup_ne _ _ hoA, tup_ne _ _ hoS]; exact gg) _)))
      · have y1 : Sub Γ1 (tup (tup Γ1 S (isφ (103, ss.map Value.ref))) A (isφ (104, as.map Value.ref))) := (tup_sub gSh _).trans (tup_sub (by rw [tup_ne _ _ hSA.symm]; exact f6) _)
        have y0 : Sub G9 (tup (tup Γ1 S (isφ (103, ss.map Value.ref))) A (isφ (104, as.map Value.ref))) := S0.trans y1
        exact ⟨_, S, A, q1, q2, q3, q4, q5, q6, q7, q8, q9, ss, as, by rw [tup_ne _ _ hoA, tup_ne _ _ hoS]; exact gg, (f3.add (ck_is rfl)).add (ck_is rfl), rfl, by rw [tup_ne _ _ hSA, tup_self], tup_self _ _ _, hls, fun t ht => (a4 t ht).mono (f1.trans y1), hla, fun t ht => (f4 t ht).mono y1,
          t1.mono ((((((((s2.trans s3).trans s4).trans s5).trans s6).trans s7).trans s8).trans s9).trans y0), t2.mono (((((((s3.trans s4).trans s5).trans s6).trans s7).trans s8).trans s9).trans y0), t3.mono ((((((s4.trans s5).trans s6).trans s7).trans s8).trans s9).trans y0), t4.mono (((((s5.trans s6).trans s7).trans s8).trans s9).trans y0), t5.mono ((((s6.trans s7).trans s8).trans s9).trans y0), t6.mono (((s7.trans s8).trans s9).trans y0), t7.mono ((s8.trans s9).trans y0), t8.mono (s9.trans y0), t9.mono ((Sub.rf _).trans y0)⟩
      · exact (((f2.add hSh (by rw [← hls, filR_end]; rfl)).add f5 (by rw [← hla, filR_end]; rfl)).add oo ⟨0, 0, rfl⟩)
      · exact ((f3.add (ck_is rfl)).add (ck_is rfl)).add ck_obj
      · intro a c ha ga hc
        obtain ⟨u1, u2⟩ := F9 a c ha ga (hb a c ha ga hc)
        by_cases z1 : a = S
        · rw [z1, hS] at hc; cases hc
        · obtain ⟨u3, u4⟩ := a7 a c ha z1 u2 u1
          by_cases z2 : a = A
          · exact absurd hc (by rw [z2]; exact hAh c)
          · exact (f7 a c ha z2 u4 u3).1
      · intro a ga hc ha
        cases hz : h a with
        | none => exact absurd hz hc
        | some c =>
          have z1 : a ≠ S := fun y => by rw [y, hS] at hz; cases hz
          have z2 : a ≠ A := fun y => by rw [y] at hz; exact hAh c hz
          obtain ⟨u1, u2⟩ := F9 a c ha ga (hb a c ha ga hz)
          obtain ⟨u3, u4⟩ := a7 a c ha z1 u2 u1
          rw [tup_ne _ _ ha, tup_ne _ _ z2, tup_ne _ _ z1]
          exact (f7 a c ha z2 u4 u3).2
    | succ d ih =>
      intro i hi G10 H10 ss Γ1 hh as l hl hla hls FS10 o10 g10 oo gg F
      have f2 : Value.int (nI i + Int32.ofInt 1) = vI (i + 1) := congrArg Value.int (by rw [nI_1', nI_add])
      refine WS.sel [1, 0] hl ?_
      iterate 2 refine fst1_ok X (dk rfl) rfl ?_
      refine br_ok X (dk rfl) rfl (show ((173 : Nat) : Int) + 22 = ((195 : Nat) : Int) from rfl) (fun c1 => absurd c1 (nI_ge (a := i) (b := 3) (by omega) (by omega))) (fun _ => ?_)
      refine fst1_ok X (dk rfl) rfl ?_
      refine getf_ok X flX6_17 (dk rfl) oo rfl ?_
      refine fst1_ok X (dk rfl) rfl ?_
      refine new_ok X nc6_15 (dk rfl) (by show 78 + 18 * i + 1 ≤ 140; omega) (by show 1939 + 161 * i + 1 ≤ 2500; omega) (fun z2 hz2 hBz2 => ?_)
      refine fst1_ok X (dk rfl) rfl ?_
      refine callI_ok (av := []) (r := [.ref z2, vI i, .ref A]) X E (c0_init _ (F.2.1.newc hz2 _) F.2.2.1 (hup_self _ _ _) (F.2.1.fresh hz2)) lkX0_init mlX6_37 lmX0_init rfl ⟨Nat.le_of_ble_eq_true rfl, Nat.le_of_ble_eq_true rfl⟩ ⟨by show 78 + 18 * i + 1 + 17 ≤ 140; omega, by show 1939 + 161 * i + 1 + 160 ≤ 2500; omega⟩ (Nat.le_of_ble_eq_true rfl) (dk rfl) ?_
      rintro v h2 ⟨rfl, N2⟩
      obtain ⟨Γ2, s2, t2, i2, k2, g2⟩ := N2.toQ hz2
      have F2 := F.grow (fun S T => AnsT.mono S T) s2 i2 k2 g2
      obtain ⟨oo2, gg2⟩ := g2 _ _ gg oo
      obtain ⟨ar2, ts2, gb2, -⟩ := id t2
      obtain ⟨fs2, hc2⟩ := is_cell i2 gb2
      have hF2 := F2.2.2.2.2.1
      have hln : (filR as 3).length = 3 := filR_len (by omega)
      refine WS.widen (k' := 78 + 18 * (i + 1)) (n' := 1939 + 161 * (i + 1)) (by show 78 + 18 * i + 1 + 17 ≤ 78 + 18 * (i + 1); omega) (by show 1939 + 161 * i + 1 + 160 ≤ 1939 + 161 * (i + 1); omega) ?_
      refine ast_ok X (Or.inr (Or.inr (Or.inr (Or.inl ⟨rfl, rfl, z2, fs2, rfl, hc2⟩)))) (dk rfl) hF2 ⟨nI_pos (by omega), by rw [nI_clamp (by omega), hln]; omega⟩ ?_
      rw [nI_clamp (n := i) (by omega)]
      have F3 := F2.put t2 (by omega)
      rw [hla] at F3
      have oo3 : hup h2 A (104, (filR as 3).set i (.ref z2)) o = some (8, [.ref S, .ref A, .int 0, .int 0, .int 0, .ref q1, .ref q2, .ref q3, .ref q4, .ref q5, .ref q6, .ref q7, .ref q8, .ref q9]) := by rw [hup_ne _ _ hoA]; exact oo2
      generalize hup h2 A (104, (filR as 3).set i (.ref z2)) = h3 at F3 oo3
      refine fst1_ok X (dk rfl) rfl ?_
      refine br_ok X (dk rfl) rfl (show ((192 : Nat) : Int) + (-21) = ((171 : Nat) : Int) from rfl) (fun _ => ?_) (fun q => absurd trivial q)
      refine WS.sel (l' := [(1, vI (i + 1)), (0, .ref o)]) [1, 0] (by rw [← f2]; rfl) ?_
      exact ih (i + 1) (by omega) G10 H10 ss Γ2 h3 (as ++ [z2]) _ rfl (by rw [List.length_append, hla]; rfl) hls FS10 o10 g10 oo3 gg2 F3
  have loopS : ∀ (d i : Nat), i + d = 6 → ∀ (Γ1 : TY) (hh : AH) (ss : List Nat) (l : List (Nat × Value)), lsel l [1, 0] = [(1, vI i), (0, .ref o)] → ss.length = i → hh o = some (8, [.ref S, .ref A, .int 0, .int 0, .int 0, .ref q1, .ref q2, .ref q3, .ref q4, .ref q5, .ref q6, .ref q7, .ref q8, .ref q9]) → Γ1 o = none → Fil G9 H9 (fun a => a = o) S 103 6 (fun Γ t => TermT Γ t 16) ss Γ1 hh → WR p la e (rmD 5 140 2500) s m args below meth c D cA B0 2 (fun v h' => v = none ∧ NewP Γ o h (fun Γ' => BmS Γ' o 0) h') 132 l [] hh (66 + 2 * i) (1825 + 19 * i) := by
    intro d
    induction d with
    | zero =>
      intro i hi Γ1 hh ss l hl hla oo gg F
      have hi2 : i = 6 := by omega
      subst hi2
      refine WS.sel [1, 0] hl ?_
      iterate 2 refine fst1_ok X (dk rfl) rfl ?_
      refine br_ok X (dk rfl) rfl (show ((135 : Nat) : Int) + 34 = ((169 : Nat) : Int) from rfl) (fun _ => ?_) (fun c1 => absurd (by decide) c1)
      iterate 2 refine fst1_ok X (dk rfl) rfl ?_
      obtain ⟨hA10, gA10⟩ := F.2.2.2.2.2.2 A _ (Ne.symm hoA) hSA.symm gA9 hA9
      exact loopA 3 0 rfl Γ1 hh ss Γ1 hh [] _ rfl rfl hla F oo gg oo gg ⟨Sub.rf _, F.2.1, F.2.2.1, fun t ht => (by cases ht), hA10, gA10, fun a c _ _ g3 g4 => ⟨g4, g3⟩⟩
    | succ d ih =>
      intro i hi Γ1 hh ss l hl hla oo gg F
      have f2 : Value.int (nI i + Int32.ofInt 1) = vI (i + 1) := congrArg Value.int (by rw [nI_1', nI_add])
      refine WS.sel [1, 0] hl ?_
      iterate 2 refine fst1_ok X (dk rfl) rfl ?_
      refine br_ok X (dk rfl) rfl (show ((135 : Nat) : Int) + 34 = ((169 : Nat) : Int) from rfl) (fun c1 => absurd c1 (nI_ge (a := i) (b := 6) (by omega) (by omega))) (fun _ => ?_)
      refine fst1_ok X (dk rfl) rfl ?_
      refine getf_ok X flX6_11 (dk rfl) oo rfl ?_
      refine fst1_ok X (dk rfl) rfl ?_
      refine new_ok X nc6_9 (dk rfl) (by show 66 + 2 * i + 1 ≤ 140; omega) (by show 1825 + 19 * i + 3 ≤ 2500; omega) (fun z2 hz2 hBz2 => ?_)
      iterate 2 refine fst1_ok X (dk rfl) rfl ?_
      rw [show (Int8.ofInt 16).toInt32 = nI 16 by decide +kernel]
      refine callI_ok (av := [.int (nI 16)]) (r := [.ref z2, vI i, .ref S]) X E (c5_init _ (F.2.1.newc hz2 _) F.2.2.1 (L := 16) (by omega) (hup_self _ _ _) (F.2.1.fresh hz2)) lkX5_init mlX6_21 lmX5_init rfl ⟨Nat.le_of_ble_eq_true rfl, Nat.le_of_ble_eq_true rfl⟩ ⟨by show 66 + 2 * i + 1 + 1 ≤ 140; omega, by show 1825 + 19 * i + 3 + 16 ≤ 2500; omega⟩ (Nat.le_of_ble_eq_true rfl) (dk rfl) ?_
      rintro v h2 ⟨rfl, N2⟩
      obtain ⟨Γ2, s2, t2, i2, k2, g2⟩ := N2.toQ hz2
      have F2 := F.grow (fun S T => TermT.mono S T) s2 i2 k2 g2
      obtain ⟨oo2, gg2⟩ := g2 _ _ gg oo
      obtain ⟨hL2, qq2, gb2, gl2⟩ := id t2
      obtain ⟨fs2, hc2⟩ := tm_cell i2 gb2
      have hF2 := F2.2.2.2.2.1
      have hln : (filR ss 6).length = 6 := filR_len (by omega)
      refine WS.widen (k' := 66 + 2 * (i + 1)) (n' := 1825 + 19 * (i + 1)) (by show 66 + 2 * i + 1 + 1 ≤ 66 + 2 * (i + 1); omega) (by show 1825 + 19 * i + 3 + 16 ≤ 1825 + 19 * (i + 1); omega) ?_
      refine ast_ok X (Or.inr (Or.inr (Or.inl ⟨rfl, rfl, z2, fs2, rfl, hc2⟩))) (dk rfl) hF2 ⟨nI_pos (by omega), by rw [nI_clamp (by omega), hln]; omega⟩ ?_
      rw [nI_clamp (n := i) (by omega)]
      have F3 := F2.put t2 (by omega)
      rw [hla] at F3
      have oo3 : hup h2 S (103, (filR ss 6).set i (.ref z2)) o = some (8, [.ref S, .ref A, .int 0, .int 0, .int 0, .ref q1, .ref q2, .ref q3, .ref q4, .ref q5, .ref q6, .ref q7, .ref q8, .ref q9]) := by rw [hup_ne _ _ hoS]; exact oo2
      generalize hup h2 S (103, (filR ss 6).set i (.ref z2)) = h3 at F3 oo3
      refine fst1_ok X (dk rfl) rfl ?_
      refine getf_ok X flX6_11 (dk rfl) oo3 rfl ?_
      refine fst1_ok X (dk rfl) rfl ?_
      refine ald_ok X (Or.inr (Or.inr ⟨rfl, by decide, by decide⟩)) (dk rfl) F3.2.2.2.2.1 (inA_nI (v := .ref z2) (by omega) (by rw [← hla]; exact filR_at ss z2 6)) ?_
      refine fst1_ok X (dk rfl) rfl ?_
      refine callVW_ok (ci := 7) (T := TX5) (N := 3) (av := [.int _]) (r := []) X E (TI.rf F3.2.1) (c5_becomeName _ F3.2.1 t2 _ (LR_nI (by omega))) lkX5_becomeName mlX6_66 lmX5_becomeName lpX5_becomeName ⟨Nat.le_of_ble_eq_true rfl, Nat.le_of_ble_eq_true rfl⟩ ⟨by show 66 + 2 * (i + 1) ≤ 140; omega, by show 1825 + 19 * (i + 1) ≤ 2500; omega⟩ rfl (tm_cell F3.2.1 gb2) (Nat.le_of_ble_eq_true rfl) (dk rfl) ?_
      rintro v h4 rfl J4
      have F4 := F3.kds J4
      have oo4 := J4.2 _ _ oo3 gg2
      refine fst1_ok X (dk rfl) rfl ?_
      refine br_ok X (dk rfl) rfl (show ((166 : Nat) : Int) + (-34) = ((132 : Nat) : Int) from rfl) (fun _ => ?_) (fun q => absurd trivial q)
      refine WS.sel (l' := [(1, vI (i + 1)), (0, .ref o)]) [1, 0] (by rw [← f2]; rfl) ?_
      exact ih (i + 1) (by omega) Γ2 h4 (ss ++ [z2]) _ rfl (by rw [List.length_append, hla]; rfl) oo4 gg2 F4
  exact loopS 6 0 rfl G9 H9 [] _ rfl rfl o9 go9 FS
end M98e
