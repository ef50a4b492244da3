/-! the constructors of answers and of the class itself (printed by wip/p40/genInit2.py) -/
theorem clX0_9 : Cond.classLink RX0 9 (cnm (aty 103)) ∈ WT := by rw [aty103]; exact WT_of (by decide +kernel) rfl
theorem clX6_9 : Cond.classLink RX6 9 (cnm (aty 103)) ∈ WT := by rw [aty103]; exact WT_of (by decide +kernel) rfl
theorem clX6_15 : Cond.classLink RX6 15 (cnm (aty 104)) ∈ WT := by rw [aty104]; exact WT_of (by decide +kernel) rfl
theorem filR_at (as : List Nat) (q N : Nat) : (filR (as ++ [q]) N)[as.length]? = some (.ref q) := by
  unfold filR
  rw [List.map_append, List.append_assoc, List.getElem?_append_right (by simp)]
  simp
/-- an array that is being filled with terms, or with answers -/
def Fil (Γ0 : TY) (h0 : AH) (ex : Nat → Prop) (arr kd N : Nat) (TT : TY → Nat → Prop) (as : List Nat) (Γ : TY) (h : AH) : Prop :=
  Sub Γ0 Γ ∧ Tyg Γ h ∧ KG Γ ∧ (∀ t ∈ as, TT Γ t) ∧ h arr = some (kd, filR as N) ∧ Γ arr = none ∧ ∀ (a : Nat) (c : AC), ¬ ex a → a ≠ arr → Γ0 a = none → h0 a = some c → h a = some c ∧ Γ a = none
section FILL
variable {Γ0 Γ Γ' : TY} {h0 h h' : AH} {ex : Nat → Prop} {arr kd N : Nat} {TT : TY → Nat → Prop} {as : List Nat}
theorem Fil.grow (F : Fil Γ0 h0 ex arr kd N TT as Γ h) (hm : ∀ {Γ Γ' : TY} {t : Nat}, Sub Γ Γ' → TT Γ t → TT Γ' t) (S : Sub Γ Γ') (I : Tyg Γ' h') (K : KG Γ') (f : ∀ (a : Nat) (c : AC), Γ a = none → h a = some c → h' a = some c ∧ Γ' a = none) : Fil Γ0 h0 ex arr kd N TT as Γ' h' := by
  obtain ⟨f1, f2, f3, f4, f5, f6, f7⟩ := F
  exact ⟨f1.trans S, I, K, fun t ht => hm S (f4 t ht), (f _ _ f6 f5).1, (f _ _ f6 f5).2, fun a c g1 g2 g3 g4 => f a c (f7 a c g1 g2 g3 g4).2 (f7 a c g1 g2 g3 g4).1⟩
theorem Fil.put (F : Fil Γ0 h0 ex arr kd N TT as Γ h) {q : Nat} (hq : TT Γ q) (hl : as.length < N) : Fil Γ0 h0 ex arr kd N TT (as ++ [q]) Γ (hup h arr (kd, (filR as N).set as.length (.ref q))) := by
  obtain ⟨f1, f2, f3, f4, f5, f6, f7⟩ := F
  refine ⟨f1, f2.setc f6 _, f3, fun t ht => (List.mem_append.mp ht).elim (f4 t) (fun z => by rw [List.mem_singleton.mp z]; exact hq), by rw [hup_self, filR_set hl], f6, fun a c g1 g2 g3 g4 => ?_⟩
  rw [hup_ne _ _ g2]
  exact f7 a c g1 g2 g3 g4
theorem Fil.kds (F : Fil Γ0 h0 ex arr kd N TT as Γ h) (J : TI Γ h h') : Fil Γ0 h0 ex arr kd N TT as Γ h' := by
  obtain ⟨f1, f2, f3, f4, f5, f6, f7⟩ := F
  exact ⟨f1, J.1, f3, f4, J.2 _ _ f5 f6, f6, fun a c g1 g2 g3 g4 => ⟨J.2 _ _ (f7 a c g1 g2 g3 g4).1 (f7 a c g1 g2 g3 g4).2, (f7 a c g1 g2 g3 g4).2⟩⟩
end FILL
section M98d
variable {la : Launch} {D : va_G} {cA : Nat → ClassId} {B0 pa : Nat}
set_option maxHeartbeats 16000000 in
theorem c0_init (h : AH) {Γ : TY} (I : Tyg Γ h) (K : KG Γ) {o : Nat} (ho : h o = some (2, [.null])) (go : Γ o = none) : CT la D cA B0 pa yX0_init cX0_init 2 none (rmD 3 17 160) [.ref o] h (fun v h' => v = none ∧ NewP Γ o h (fun Γ' => AnsT Γ' o) h') := by
  refine CT_of (by decide +kernel) (Nat.le_of_ble_eq_true rfl) ?_
  intro p e s m args below meth c X E hr hlk hnm
  have dk : ∀ {pc : Nat} {q : Instr × Nat}, lkd DX0_init pc = some q → decode cX0_init pc = .ok q := lkd_ok DX0_init_ok
  refine fst1_ok X (dk rfl) rfl ?_
  refine obj_ok X ml0_obj (dk rfl) (Nat.le_of_ble_eq_true rfl) (Nat.le_of_ble_eq_true rfl) (Nat.le_of_ble_eq_true rfl) ?_
  iterate 2 refine fst1_ok X (dk rfl) rfl ?_
  rw [show (Int8.ofInt 8).toInt32 = nI 8 by decide +kernel]
  refine newR_ok (N := 8) (kd := 103) X E (by decide) clX0_9 (by decide) (dk rfl) (Nat.le_of_ble_eq_true rfl) (Nat.le_of_ble_eq_true rfl) (fun q hq hBq => ?_)
  have hoq : o ≠ q := fun z => by rw [z, hq] at ho; cases ho
  refine putf_ok X flX0_11 ftX0_0 (Or.inr ⟨by rw [hnm]; rfl, RX0, TX0, 1, rfl, rfl⟩) rfl rfl (dk rfl) (by rw [hup_ne _ _ hoq]; exact ho) (Nat.le_of_ble_eq_true rfl) ?_
  have o1 : hup (hup h q (103, List.replicate 8 Value.null)) o (2, [Value.null].set 0 (.ref q)) o = some (2, [.ref q]) := hup_self _ _ _
  have FF : Fil Γ h (fun a => a = o) q 103 8 (fun Γ t => TermT Γ t 16) [] Γ (hup (hup h q (103, List.replicate 8 Value.null)) o (2, [Value.null].set 0 (.ref q))) := by
    refine ⟨Sub.rf _, (I.newc hq _).setc go _, K, fun t ht => (by cases ht), by rw [hup_ne _ _ hoq.symm, hup_self, filR_0], I.fresh hq, fun a c g1 g2 g3 g4 => ⟨?_, g3⟩⟩
    rw [hup_ne _ _ g1, hup_ne _ _ g2]
    exact g4
  generalize hup (hup h q (103, List.replicate 8 Value.null)) o (2, [Value.null].set 0 (.ref q)) = h1 at o1 FF
  iterate 2 refine fst1_ok X (dk rfl) rfl ?_
  have loop : ∀ (d i : Nat), i + d = 8 → ∀ (Γ1 : TY) (hh : AH) (as : List Nat) (l : List (Nat × Value)), lsel l [1, 0] = [(1, vI i), (0, .ref o)] → as.length = i → hh o = some (2, [.ref q]) → Γ1 o = none → Fil Γ h (fun a => a = o) q 103 8 (fun Γ t => TermT Γ t 16) as Γ1 hh → WR p la e (rmD 3 17 160) s m args below meth c D cA B0 2 (fun v h' => v = none ∧ NewP Γ o h (fun Γ' => AnsT Γ' o) h') 15 l [] hh (1 + 2 * i) (8 + 19 * i) := by
    intro d
    induction d with
    | zero =>
      intro i hi Γ1 hh as l hl hla oo gg F
      have hi2 : i = 8 := by omega
      subst hi2
      obtain ⟨f1, f2, f3, f4, f5, f6, f7⟩ := F
      refine WS.sel [1, 0] hl ?_
      iterate 2 refine fst1_ok X (dk rfl) rfl ?_
      refine br_ok X (dk rfl) rfl (show ((18 : Nat) : Int) + 34 = ((52 : Nat) : Int) from rfl) (fun _ => ?_) (fun c1 => absurd (by decide) c1)
      refine retv_ok X hr hlk (dk rfl) ⟨rfl, tup (tup Γ1 q (isφ (103, as.map Value.ref))) o (isφ (2, [.ref q])), ?_, ?_, ?_, ?_, ?_, ?_⟩ (Nat.le_of_ble_eq_true rfl) (Nat.le_of_ble_eq_true rfl)
      · exact f1.trans ((tup_sub f6 _).trans (tup_sub (by rw [tup_ne _ _ hoq]; exact gg) _))
      · have z : Sub Γ1 (tup (tup Γ1 q (isφ (103, as.map Value.ref))) o (isφ (2, [.ref q]))) := (tup_sub f6 _).trans (tup_sub (by rw [tup_ne _ _ hoq]; exact gg) _)
        exact ⟨q, as, tup_self _ _ _, by rw [tup_ne _ _ hoq.symm, tup_self], hla, fun t ht => (f4 t ht).mono z⟩
      · exact (f2.add f5 (by rw [← hla, filR_end]; rfl)).add oo rfl
      · exact (f3.add (ck_is rfl)).add (ck_is rfl)
      · intro a c ha ga hc
        by_cases hz : a = q
        · rw [hz, hq] at hc; cases hc
        · exact (f7 a c ha hz ga hc).1
      · intro a ga hc ha
        cases hz : h a with
        | none => exact absurd hz hc
        | some c =>
          have hne : a ≠ q := fun y => by rw [y, hq] at hz; cases hz
          rw [tup_ne _ _ ha, tup_ne _ _ hne]
          exact (f7 a c ha hne ga hz).2
    | succ d ih =>
      intro i hi Γ1 hh as l hl hla oo gg F
      have f2 : Value.int (nI i + Int32.ofInt 1) = vI (i + 1) := congrArg Value.int (by rw [nI_1', nI_add])
      refine WS.sel [1, 0] hl ?_
      iterate 2 refine fst1_ok X (dk rfl) rfl ?_
      refine br_ok X (dk rfl) rfl (show ((18 : Nat) : Int) + 34 = ((52 : Nat) : Int) from rfl) (fun c1 => absurd c1 (nI_ge (a := i) (b := 8) (by omega) (by omega))) (fun _ => ?_)
      refine fst1_ok X (dk rfl) rfl ?_
      refine getf_ok X flX0_11 (dk rfl) oo rfl ?_
      refine fst1_ok X (dk rfl) rfl ?_
      refine new_ok X nc0_9 (dk rfl) (by show 1 + 2 * i + 1 ≤ 17; omega) (by show 8 + 19 * i + 3 ≤ 160; omega) (fun q2 hq2 hBq2 => ?_)
      iterate 2 refine fst1_ok X (dk rfl) rfl ?_
      rw [show (Int8.ofInt 16).toInt32 = nI 16 by decide +kernel]
      refine callI_ok (av := [.int (nI 16)]) (r := [.ref q2, vI i, .ref q]) X E (c5_init _ (F.2.1.newc hq2 _) F.2.2.1 (L := 16) (by omega) (hup_self _ _ _) (F.2.1.fresh hq2)) lkX5_init mlX0_17 lmX5_init rfl ⟨Nat.le_of_ble_eq_true rfl, Nat.le_of_ble_eq_true rfl⟩ ⟨by show 1 + 2 * i + 1 + 1 ≤ 17; omega, by show 8 + 19 * i + 3 + 16 ≤ 160; omega⟩ (Nat.le_of_ble_eq_true rfl) (dk rfl) ?_
      rintro v h2 ⟨rfl, N2⟩
      obtain ⟨Γ2, s2, t2, i2, k2, g2⟩ := N2.toQ hq2
      have F2 := F.grow (fun S T => TermT.mono S T) s2 i2 k2 g2
      obtain ⟨oo2, gg2⟩ := g2 _ _ gg oo
      obtain ⟨hL2, qq2, gb2, gl2⟩ := id t2
      obtain ⟨fs2, hc2⟩ := tm_cell i2 gb2
      have hF2 := F2.2.2.2.2.1
      have hln : (filR as 8).length = 8 := filR_len (by omega)
      refine WS.widen (k' := 1 + 2 * (i + 1)) (n' := 8 + 19 * (i + 1)) (by show 1 + 2 * i + 1 + 1 ≤ 1 + 2 * (i + 1); omega) (by show 8 + 19 * i + 3 + 16 ≤ 8 + 19 * (i + 1); omega) ?_
      refine ast_ok X (Or.inr (Or.inr (Or.inl ⟨rfl, rfl, q2, fs2, rfl, hc2⟩))) (dk rfl) hF2 ⟨nI_pos (by omega), by rw [nI_clamp (by omega), hln]; omega⟩ ?_
      rw [nI_clamp (n := i) (by omega)]
      have F3 := F2.put t2 (by omega)
      rw [hla] at F3
      have oo3 : hup h2 q (103, (filR as 8).set i (.ref q2)) o = some (2, [.ref q]) := by rw [hup_ne _ _ hoq]; exact oo2
      generalize hup h2 q (103, (filR as 8).set i (.ref q2)) = h3 at F3 oo3
      refine fst1_ok X (dk rfl) rfl ?_
      refine getf_ok X flX0_11 (dk rfl) oo3 rfl ?_
      refine fst1_ok X (dk rfl) rfl ?_
      refine ald_ok X (Or.inr (Or.inr ⟨rfl, by decide, by decide⟩)) (dk rfl) F3.2.2.2.2.1 (inA_nI (v := .ref q2) (by omega) (by rw [← hla]; exact filR_at as q2 8)) ?_
      refine fst1_ok X (dk rfl) rfl ?_
      refine callVW_ok (ci := 7) (T := TX5) (N := 3) (av := [.int _]) (r := []) X E (TI.rf F3.2.1) (c5_becomeName _ F3.2.1 t2 _ (LR_nI (by omega))) lkX5_becomeName mlX0_20 lmX5_becomeName lpX5_becomeName ⟨Nat.le_of_ble_eq_true rfl, Nat.le_of_ble_eq_true rfl⟩ ⟨by show 1 + 2 * (i + 1) ≤ 17; omega, by show 8 + 19 * (i + 1) ≤ 160; omega⟩ rfl (tm_cell F3.2.1 gb2) (Nat.le_of_ble_eq_true rfl) (dk rfl) ?_
      rintro v h4 rfl J4
      have F4 := F3.kds J4
      have oo4 := J4.2 _ _ oo3 gg2
      refine fst1_ok X (dk rfl) rfl ?_
      refine br_ok X (dk rfl) rfl (show ((49 : Nat) : Int) + (-34) = ((15 : Nat) : Int) from rfl) (fun _ => ?_) (fun q => absurd trivial q)
      refine WS.sel (l' := [(1, vI (i + 1)), (0, .ref o)]) [1, 0] (by rw [← f2]; rfl) ?_
      exact ih (i + 1) (by omega) Γ2 h4 (as ++ [q2]) _ rfl (by rw [List.length_append, hla]; rfl) oo4 gg2 F4
  exact loop 8 0 rfl Γ h1 [] _ rfl rfl o1 go FF
end M98d
