/-! new answers of the class, strongly (printed by wip/p20/genN2.py) -/
abbrev T4 : Type := Nat × Nat × Nat × TC
section KLt
variable {ex : Nat → Prop} {h h1 h2 : AH} {ts : List T4} {rs : List (Nat × Nat)}
theorem KL.bn {u q L : Nat} {c c' : TC} (A : KL ex h h1 [(u, q, L, c)] []) (T : TmX h2 u q L c') (f : ∀ a : Nat, a ≠ u → a ≠ q → h2 a = h1 a) : KL ex h h2 [(u, q, L, c')] [] := by
  obtain ⟨a1, a2, a3, a4, a5, a6, a7⟩ := A
  obtain ⟨q1, q2, q3, q4, -⟩ := a6 _ List.mem_cons_self
  have q1 : h u = none := q1
  have q2 : h q = none := q2
  refine ⟨fun a cc ne e => ?_, a2, a3, a4, fun t _ r hr => (by cases hr), fun t ht => ?_, fun r hr => (by cases hr)⟩
  · rw [f a (fun z => by rw [z, q1] at e; cases e) (fun z => by rw [z, q2] at e; cases e)]
    exact a1 a cc ne e
  · rw [List.mem_singleton.mp ht]
    exact ⟨q1, q2, q3, q4, T⟩
theorem KL.drop {A : Nat} (K : KL (fun a => ex a ∨ a = A) h h1 ts rs) (hA : h A = none) : KL ex h h1 ts rs := by
  obtain ⟨a1, a2, a3, a4, a5, a6, a7⟩ := K
  refine ⟨fun a c ne e => a1 a c (fun z => z.elim ne (fun w => by rw [w, hA] at e; cases e)) e, a2, a3, a4, a5, fun t ht => ?_, fun r hr => ?_⟩
  · obtain ⟨q1, q2, q3, q4, q5⟩ := a6 t ht
    exact ⟨q1, q2, fun z => q3 (Or.inl z), fun z => q4 (Or.inl z), q5⟩
  · obtain ⟨q1, q2, q3⟩ := a7 r hr
    exact ⟨q1, fun z => q2 (Or.inl z), q3⟩
end KLt
/-- eight terms, each a name's own -/
def Tn8 (f : Nat) (ts : List T4) : Prop := ts.length = f ∧ ∀ n, n < f → ∃ b q, ts[n]? = some (b, q, 16, ([nI n], false))
theorem Tn8.add {f : Nat} {ts : List T4} (H : Tn8 f ts) (b q : Nat) : Tn8 (f + 1) (ts ++ [(b, q, 16, ([nI f], false))]) := by
  refine ⟨by rw [List.length_append, H.1]; rfl, fun n hn => ?_⟩
  rcases Nat.lt_or_ge n f with c | c
  · obtain ⟨b1, q1, e⟩ := H.2 n c
    exact ⟨b1, q1, by rw [List.getElem?_append_left (by rw [H.1]; exact c)]; exact e⟩
  · have e : n = f := by omega
    refine ⟨b, q, ?_⟩
    rw [e, ← H.1]
    exact List.getElem?_concat_length
section F02
variable {la : Launch} {D : va_G} {cA : Nat → ClassId} {B0 pa : Nat}
set_option maxHeartbeats 4000000 in
theorem n5_empty (h : AH) {b q L : Nat} {c0 : TC} (T : TmX h b q L c0) : CT la D cA B0 pa yX5_empty cX5_empty 1 none (rmD 0 0 0) [.ref b] h (fun v h' => v = none ∧ TmX h' b q L ([], false) ∧ ∀ a : Nat, a ≠ b → a ≠ q → h' a = h a) := by
  refine CT_of (by decide +kernel) (Nat.le_of_ble_eq_true rfl) ?_
  intro p e s m args below meth c X E hr hlk hnm
  have dk : ∀ {pc : Nat} {q : Instr × Nat}, lkd DX5_empty pc = some q → decode cX5_empty pc = .ok q := lkd_ok DX5_empty_ok
  obtain ⟨a1, a2, xs, a3, a4, a5⟩ := T
  have hbq : b ≠ q := k_ne a2 a3 (by decide)
  iterate 2 refine fst1_ok X (dk rfl) rfl ?_
  refine putf_ok X flX5_21 ftX5_1 (Or.inl rfl) rfl rfl (dk rfl) a2 (Nat.le_of_ble_eq_true rfl) ?_
  iterate 2 refine fst1_ok X (dk rfl) rfl ?_
  refine putf_ok X flX5_25 ftX5_2 (Or.inl rfl) (by decide +kernel) (by decide +kernel) (dk rfl) (hup_self _ _ _) (Nat.le_of_ble_eq_true rfl) ?_
  rw [hup_hup]
  exact retv_ok X hr hlk (dk rfl) (⟨rfl, ⟨Nat.zero_le _, hup_self _ _ _, xs, by rw [hup_ne _ _ hbq.symm]; exact a3, a4, rfl⟩, fun a n1 _ => hup_ne _ _ n1⟩) (Nat.le_of_ble_eq_true rfl) (Nat.le_of_ble_eq_true rfl)
set_option maxHeartbeats 4000000 in
theorem n5_add (h : AH) {b q L : Nat} (T : TmX h b q L ([], false)) (hL : 1 ≤ L) (hL2 : L ≤ 256) (n : Nat) : CT la D cA B0 pa yX5_add cX5_add 2 none (rmD 0 0 0) [.ref b, vI n] h (fun v h' => v = none ∧ TmX h' b q L ([nI n], false) ∧ ∀ a : Nat, a ≠ b → a ≠ q → h' a = h a) := by
  refine CT_of (by decide +kernel) (Nat.le_of_ble_eq_true rfl) ?_
  intro p e s m args below meth c X E hr hlk hnm
  have dk : ∀ {pc : Nat} {q : Instr × Nat}, lkd DX5_add pc = some q → decode cX5_add pc = .ok q := lkd_ok DX5_add_ok
  obtain ⟨a1, a2, xs, a3, a4, a5⟩ := T
  have hbq : b ≠ q := k_ne a2 a3 (by decide)
  have a2 : h b = some (7, [.ref q, vI 0, .int (bI false)]) := a2
  refine fst1_ok X (dk rfl) rfl ?_
  refine getf_ok X flX5_21 (dk rfl) a2 rfl ?_
  refine br_ok X (dk rfl) rfl (show ((4 : Nat) : Int) + 38 = ((42 : Nat) : Int) from rfl) (fun q => absurd q (by decide)) (fun _ => ?_)
  refine fst1_ok X (dk rfl) rfl ?_
  refine getf_ok X flX5_21 (dk rfl) a2 rfl ?_
  refine fst1_ok X (dk rfl) rfl ?_
  refine getf_ok X flX5_15 (dk rfl) a2 rfl ?_
  refine alen7_ok X (dk rfl) a3 a4 ?_
  refine br_ok X (dk rfl) rfl (show ((16 : Nat) : Int) + 26 = ((42 : Nat) : Int) from rfl) (fun q => absurd q (nI_ge (by omega) (by omega))) (fun _ => ?_)
  refine fst1_ok X (dk rfl) rfl ?_
  refine getf_ok X flX5_15 (dk rfl) a2 rfl ?_
  refine fst1_ok X (dk rfl) rfl ?_
  refine getf_ok X flX5_21 (dk rfl) a2 rfl ?_
  refine fst1_ok X (dk rfl) rfl ?_
  refine ast7_ok X (dk rfl) a3 (by decide) (by rw [show (nI 0).toNatClampNeg = 0 from nI_clamp (by decide)]; omega) ?_
  rw [show (nI 0).toNatClampNeg = 0 from nI_clamp (by decide)]
  have a6 : hup h q (107, (xs.set 0 (nI n)).map Value.int) b = some (7, [.ref q, vI 0, .int (bI false)]) := by rw [hup_ne _ _ hbq]; exact a2
  iterate 2 refine fst1_ok X (dk rfl) rfl ?_
  refine getf_ok X flX5_21 (dk rfl) a6 rfl ?_
  iterate 2 refine fst1_ok X (dk rfl) rfl ?_
  rw [nI_1', nI_add]
  refine putf_ok X flX5_21 ftX5_1 (Or.inl rfl) rfl rfl (dk rfl) a6 (Nat.le_of_ble_eq_true rfl) ?_
  refine br_ok X (dk rfl) rfl (show ((39 : Nat) : Int) + 8 = ((47 : Nat) : Int) from rfl) (fun _ => ?_) (fun q => absurd trivial q)
  refine retv_ok X hr hlk (dk rfl) (⟨rfl, ⟨hL, hup_self _ _ _, xs.set 0 (nI n), by rw [hup_ne _ _ hbq.symm, hup_self], by rw [List.length_set]; exact a4, ?_⟩, fun a n1 n2 => by rw [hup_ne _ _ n1, hup_ne _ _ n2]⟩) (Nat.le_of_ble_eq_true rfl) (Nat.le_of_ble_eq_true rfl)
  cases xs with
  | nil => exact absurd a4 (by simp; omega)
  | cons x r => rfl
set_option maxHeartbeats 4000000 in
theorem n5_becomeName (h : AH) {b q L : Nat} {c0 : TC} (T : TmX h b q L c0) (hL : 1 ≤ L) (hL2 : L ≤ 256) (n : Nat) : CT la D cA B0 pa yX5_becomeName cX5_becomeName 2 none (rmD 1 0 0) [.ref b, vI n] h (fun v h' => v = none ∧ TmX h' b q L ([nI n], false) ∧ ∀ a : Nat, a ≠ b → a ≠ q → h' a = h a) := by
  refine CT_of (by decide +kernel) (Nat.le_of_ble_eq_true rfl) ?_
  intro p e s m args below meth c X E hr hlk hnm
  have dk : ∀ {pc : Nat} {q : Instr × Nat}, lkd DX5_becomeName pc = some q → decode cX5_becomeName pc = .ok q := lkd_ok DX5_becomeName_ok
  refine fst1_ok X (dk rfl) rfl ?_
  refine callV_ok (ci := 7) (T := TX5) (N := 3) (av := []) (r := []) X E (n5_empty h T) lkX5_empty mlX5_37 lmX5_empty lpX5_empty ⟨Nat.le_of_ble_eq_true rfl, Nat.le_of_ble_eq_true rfl⟩ ⟨Nat.le_of_ble_eq_true rfl, Nat.le_of_ble_eq_true rfl⟩ rfl (by obtain ⟨-, a2, -⟩ := T; exact a2) (Nat.le_of_ble_eq_true rfl) (dk rfl) ?_
  rintro _ h1 ⟨rfl, T1, f1⟩
  iterate 2 refine fst1_ok X (dk rfl) rfl ?_
  refine callV_ok (ci := 7) (T := TX5) (N := 3) (av := [vI n]) (r := []) X E (n5_add h1 T1 hL hL2 n) lkX5_add mlX5_33 lmX5_add lpX5_add ⟨Nat.le_of_ble_eq_true rfl, Nat.le_of_ble_eq_true rfl⟩ ⟨Nat.le_of_ble_eq_true rfl, Nat.le_of_ble_eq_true rfl⟩ rfl T1.2.1 (Nat.le_of_ble_eq_true rfl) (dk rfl) ?_
  rintro _ h2 ⟨rfl, T2, f2⟩
  exact retv_ok X hr hlk (dk rfl) (⟨rfl, T2, fun a n1 n2 => (f2 a n1 n2).trans (f1 a n1 n2)⟩) (Nat.le_of_ble_eq_true rfl) (Nat.le_of_ble_eq_true rfl)
set_option maxHeartbeats 16000000 in
theorem n0_init (h : AH) {o : Nat} (ho : h o = some (2, [.null])) : CT la D cA B0 pa yX0_init cX0_init 2 none (rmD 3 17 160) [.ref o] h (fun v h' => v = none ∧ ∃ (arr : Nat) (ts : List T4), h' o = some (2, [.ref arr]) ∧ h' arr = some (103, (ts.map (fun t => t.1)).map Value.ref) ∧ Tn8 8 ts ∧ h arr = none ∧ KL (fun a => a = o) h h' ts []) := by
  refine CT_of (by decide +kernel) (Nat.le_of_ble_eq_true rfl) ?_
  intro p e s m args below meth c X E hr hlk hnm
  have dk : ∀ {pc : Nat} {q : Instr × Nat}, lkd DX0_init pc = some q → decode cX0_init pc = .ok q := lkd_ok DX0_init_ok
  refine fst1_ok X (dk rfl) rfl ?_
  refine obj_ok X ml0_obj (dk rfl) (Nat.le_of_ble_eq_true rfl) (Nat.le_of_ble_eq_true rfl) (Nat.le_of_ble_eq_true rfl) ?_
  iterate 2 refine fst1_ok X (dk rfl) rfl ?_
  rw [show (Int8.ofInt 8).toInt32 = nI 8 by decide +kernel]
  refine newR_ok (N := 8) (kd := 103) X E (by decide) clX0_9 (by decide) (dk rfl) (Nat.le_of_ble_eq_true rfl) (Nat.le_of_ble_eq_true rfl) (fun q hq hBq => ?_)
  have hoq : o ≠ q := fun z => by rw [z, hq] at ho; cases ho
  refine putf_ok X flX0_11 ftX0_0 (Or.inr ⟨by rw [hnm]; rfl, RX0, TX0, 1, rfl, rfl⟩) rfl rfl (dk rfl) (by rw [hup_ne _ _ hoq]; exact ho) (Nat.le_of_ble_eq_true rfl) ?_
  have o1 : hup (hup h q (103, List.replicate 8 Value.null)) o (2, [Value.null].set 0 (.ref q)) o = some (2, [.ref q]) := hup_self _ _ _
  have q1 : hup (hup h q (103, List.replicate 8 Value.null)) o (2, [Value.null].set 0 (.ref q)) q = some (103, filR [] 8) := by rw [hup_ne _ _ hoq.symm, hup_self, filR_0]
  have K1 : KL (fun a => a = o ∨ a = q) h (hup (hup h q (103, List.replicate 8 Value.null)) o (2, [Value.null].set 0 (.ref q))) [] [] := ((KL.rf _ h).set (Or.inr rfl) _).set (Or.inl rfl) _
  generalize hup (hup h q (103, List.replicate 8 Value.null)) o (2, [Value.null].set 0 (.ref q)) = h1 at o1 q1 K1
  iterate 2 refine fst1_ok X (dk rfl) rfl ?_
  have loop : ∀ (d i : Nat), i + d = 8 → ∀ (hh : AH) (ts : List T4) (l : List (Nat × Value)), lsel l [1, 0] = [(1, vI i), (0, .ref o)] → Tn8 i ts → hh o = some (2, [.ref q]) → hh q = some (103, filR (ts.map (fun t => t.1)) 8) → KL (fun a => a = o ∨ a = q) h hh ts [] → WR p la e (rmD 3 17 160) s m args below meth c D cA B0 2 (fun v h' => v = none ∧ ∃ (arr : Nat) (ts : List T4), h' o = some (2, [.ref arr]) ∧ h' arr = some (103, (ts.map (fun t => t.1)).map Value.ref) ∧ Tn8 8 ts ∧ h arr = none ∧ KL (fun a => a = o) h h' ts []) 15 l [] hh (1 + 2 * i) (8 + 19 * i) := by
    intro d
    induction d with
    | zero =>
      intro i hi hh ts l hl ht oo qq K
      have hi2 : i = 8 := by omega
      subst hi2
      refine WS.sel [1, 0] hl ?_
      iterate 2 refine fst1_ok X (dk rfl) rfl ?_
      refine br_ok X (dk rfl) rfl (show ((18 : Nat) : Int) + 34 = ((52 : Nat) : Int) from rfl) (fun _ => ?_) (fun c1 => absurd (by decide) c1)
      have hlen : (ts.map (fun t => t.1)).length = 8 := by rw [List.length_map]; exact ht.1
      exact retv_ok X hr hlk (dk rfl) ⟨rfl, q, ts, oo, by rw [qq, ← hlen, filR_end], ht, hq, K.drop hq⟩ (Nat.le_of_ble_eq_true rfl) (Nat.le_of_ble_eq_true rfl)
    | succ d ih =>
      intro i hi hh ts l hl ht oo qq K
      have hla : (ts.map (fun t => t.1)).length = i := by rw [List.length_map]; exact ht.1
      have f2 : Value.int (nI i + Int32.ofInt 1) = vI (i + 1) := congrArg Value.int (by rw [nI_1', nI_add])
      have xo : ∀ a, (a = o ∨ a = q) → hh a ≠ none := fun a z w => by
        rcases z with rfl | rfl
        · rw [oo] at w; cases w
        · rw [qq] at w; cases w
      refine WS.sel [1, 0] hl ?_
      iterate 2 refine fst1_ok X (dk rfl) rfl ?_
      refine br_ok X (dk rfl) rfl (show ((18 : Nat) : Int) + 34 = ((52 : Nat) : Int) from rfl) (fun c1 => absurd c1 (nI_ge (a := i) (b := 8) (by omega) (by omega))) (fun _ => ?_)
      refine fst1_ok X (dk rfl) rfl ?_
      refine getf_ok X flX0_11 (dk rfl) oo rfl ?_
      refine fst1_ok X (dk rfl) rfl ?_
      refine new_ok X nc0_9 (dk rfl) (by show 1 + 2 * i + 1 ≤ 17; omega) (by show 8 + 19 * i + 3 ≤ 160; omega) (fun u hu hBu => ?_)
      iterate 2 refine fst1_ok X (dk rfl) rfl ?_
      rw [show (Int8.ofInt 16).toInt32 = nI 16 by decide +kernel]
      refine callI_ok (av := [.int (nI 16)]) (r := [.ref u, vI i, .ref q]) X E (n5_init _ (L := 16) (by omega) (hup_self _ _ _)) lkX5_init mlX0_17 lmX5_init rfl ⟨Nat.le_of_ble_eq_true rfl, Nat.le_of_ble_eq_true rfl⟩ ⟨by show 1 + 2 * i + 1 + 1 ≤ 17; omega, by show 8 + 19 * i + 3 + 16 ≤ 160; omega⟩ (Nat.le_of_ble_eq_true rfl) (dk rfl) ?_
      rintro v h2 ⟨rfl, w2, hw2, e2⟩
      have K2 := KL.term (ex := fun a => a = o ∨ a = q) (L := 16) xo hu hw2
      rw [← e2] at K2
      have nu : ∀ a, hh a ≠ none → a ≠ u := fun a z y => z (by rw [y]; exact hu)
      have nw : ∀ a, hh a ≠ none → a ≠ w2 := fun a z y => z (by rw [hup_ne _ _ (fun y2 => by rw [y2, hup_self] at hw2; cases hw2)] at hw2; rw [y]; exact hw2)
      have kp2 : ∀ a, hh a ≠ none → h2 a = hh a := fun a z => by rw [e2, hup_ne _ _ (nu a z), hup_ne _ _ (nw a z), hup_ne _ _ (nu a z)]
      have oo2 : h2 o = some (2, [.ref q]) := by rw [kp2 o (xo o (Or.inl rfl))]; exact oo
      have qq2 : h2 q = some (103, filR (ts.map (fun t => t.1)) 8) := by rw [kp2 q (xo q (Or.inr rfl))]; exact qq
      have T2 := (K2.2.2.2.2.2.1 _ List.mem_cons_self).2.2.2.2
      have T2 : TmX h2 u w2 16 ([], false) := T2
      have nuq : u ≠ q := (nu q (xo q (Or.inr rfl))).symm
      have nwq : w2 ≠ q := (nw q (xo q (Or.inr rfl))).symm
      have hln : (filR (ts.map (fun t => t.1)) 8).length = 8 := filR_len (by omega)
      refine WS.widen (k' := 1 + 2 * (i + 1)) (n' := 8 + 19 * (i + 1)) (by show 1 + 2 * i + 1 + 1 ≤ 1 + 2 * (i + 1); omega) (by show 8 + 19 * i + 3 + 16 ≤ 8 + 19 * (i + 1); omega) ?_
      refine ast_ok X (Or.inr (Or.inr (Or.inl ⟨rfl, rfl, u, _, rfl, T2.2.1⟩))) (dk rfl) qq2 ⟨nI_pos (by omega), by rw [nI_clamp (by omega), hln]; omega⟩ ?_
      rw [nI_clamp (n := i) (by omega), show (filR (ts.map (fun t => t.1)) 8).set i (.ref u) = filR (ts.map (fun t => t.1) ++ [u]) 8 by rw [← hla]; exact filR_set (by omega)]
      have K3 := K2.set (a := q) (Or.inr rfl) (103, filR (ts.map (fun t => t.1) ++ [u]) 8)
      have T3 : TmX (hup h2 q (103, filR (ts.map (fun t => t.1) ++ [u]) 8)) u w2 16 ([], false) := T2.kp (fun a cc ha hc => by rw [hup_ne _ _ (by rcases ha with rfl | rfl <;> assumption)]; exact hc)
      have oo3 : hup h2 q (103, filR (ts.map (fun t => t.1) ++ [u]) 8) o = some (2, [.ref q]) := by rw [hup_ne _ _ hoq]; exact oo2
      have qq3 : hup h2 q (103, filR (ts.map (fun t => t.1) ++ [u]) 8) q = some (103, filR (ts.map (fun t => t.1) ++ [u]) 8) := hup_self _ _ _
      generalize hup h2 q (103, filR (ts.map (fun t => t.1) ++ [u]) 8) = h3 at K3 T3 oo3 qq3
      refine fst1_ok X (dk rfl) rfl ?_
      refine getf_ok X flX0_11 (dk rfl) oo3 rfl ?_
      refine fst1_ok X (dk rfl) rfl ?_
      refine ald_ok X (Or.inr (Or.inr ⟨rfl, by decide, by decide⟩)) (dk rfl) qq3 (inA_nI (v := .ref u) (by omega) (by rw [← hla]; exact filR_at _ u 8)) ?_
      refine fst1_ok X (dk rfl) rfl ?_
      refine callV_ok (ci := 7) (T := TX5) (N := 3) (av := [vI i]) (r := []) X E (n5_becomeName h3 T3 (by decide) (by decide) i) lkX5_becomeName mlX0_20 lmX5_becomeName lpX5_becomeName ⟨Nat.le_of_ble_eq_true rfl, Nat.le_of_ble_eq_true rfl⟩ ⟨by show 1 + 2 * (i + 1) ≤ 17; omega, by show 8 + 19 * (i + 1) ≤ 160; omega⟩ rfl T3.2.1 (Nat.le_of_ble_eq_true rfl) (dk rfl) ?_
      rintro v h4 ⟨rfl, T4', f4⟩
      have K4 := K.tr (K3.bn T4' f4)
      have nou : o ≠ u := nu o (xo o (Or.inl rfl))
      have now : o ≠ w2 := nw o (xo o (Or.inl rfl))
      refine fst1_ok X (dk rfl) rfl ?_
      refine br_ok X (dk rfl) rfl (show ((49 : Nat) : Int) + (-34) = ((15 : Nat) : Int) from rfl) (fun _ => ?_) (fun q => absurd trivial q)
      refine WS.sel (l' := [(1, vI (i + 1)), (0, .ref o)]) [1, 0] (by rw [← f2]; rfl) ?_
      refine WS.widen (k' := 1 + 2 * (i + 1)) (n' := 8 + 19 * (i + 1)) (Nat.le_refl _) (Nat.le_refl _) ?_
      exact ih (i + 1) (by omega) h4 (ts ++ [(u, w2, 16, ([nI i], false))]) _ rfl (ht.add u w2) (by rw [f4 o nou now]; exact oo3) (by rw [f4 q nuq.symm nwq.symm, List.map_append]; exact qq3) K4
  exact loop 8 0 rfl h1 [] _ rfl ⟨rfl, fun n hn => absurd hn (Nat.not_lt_zero n)⟩ o1 q1 K1
end F02
