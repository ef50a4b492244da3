/-! the reference's classes, 2: come, join -/
def comeT (ts : List (List Nat)) (t : List Nat) : List (List Nat) := if t ∈ ts then ts else ts ++ [t]
def comeO (ts : List (List Nat)) (of' : List Nat) (t : List Nat) : List Nat := if t ∈ ts then of' else of'.set ts.length ts.length
def relF (of' : List Nat) (a b : Nat) : Nat → List Nat
  | 0 => of'
  | k + 1 => if (relF of' a b k).getD k 0 = b then (relF of' a b k).set k a else relF of' a b k
def joinL (go : List Nat → Bool → Nat → Nat → Option (List Nat × Bool)) (pt : List Nat) (a b : Nat) : Nat → Nat → List Nat → Bool → Option (List Nat × Bool)
  | 0, _, of', can => some (of', can)
  | n + 1, j, of', can => match go of' can (pt.getD (3 * a + j) 0) (pt.getD (3 * b + j) 0) with
    | none => none
    | some (o1, c1) => joinL go pt a b n (j + 1) o1 c1
def joinF (ts : List (List Nat)) (pt : List Nat) : Nat → List Nat → Bool → Nat → Nat → Option (List Nat × Bool)
  | 0, _, _, _, _ => none
  | f + 1, of', can, one, other => if of'.getD one 0 = of'.getD other 0 ∨ can = false then some (of', can) else
    match headF ts of' (of'.getD one 0), headF ts of' (of'.getD other 0) with
    | some a, some b => if hdT ts a = hdT ts b then joinL (joinF ts pt f) pt a b (pF (hdT ts a)) 0 (relF of' (of'.getD one 0) (of'.getD other 0) ts.length) can else some (relF of' (of'.getD one 0) (of'.getD other 0) ts.length, false)
    | _, _ => some (relF of' (of'.getD one 0) (of'.getD other 0) ts.length, can)
def pI (o : Option Nat) : Int32 := match o with
  | some k => nI k
  | none => Int32.ofInt (-1)
theorem vP_pI (o : Option Nat) : vP o = .int (pI o) := by cases o <;> rfl
theorem relF_succ (of' : List Nat) (a b k : Nat) : relF of' a b (k + 1) = if (relF of' a b k).getD k 0 = b then (relF of' a b k).set k a else relF of' a b k := rfl
theorem nI_3' : Int32.ofInt 3 = nI 3 := by decide +kernel
section CS2
variable {h : AH} {o8 T O Q : Nat} {ts : List (List Nat)} {of' pt : List Nat} {can : Bool}
theorem CR.hup (H : CR h T O Q ts) {q : Nat} (hq : q = O ∨ q = Q ∨ ∃ k vs, h q = some (k, vs) ∧ k ≠ 100 ∧ q ≠ T) (hT : T ≠ q) (c : AC) : CR (hup h q c) T O Q ts := by
  obtain ⟨as, h1, h2, h3⟩ := H
  refine ⟨as, h1, by rw [hup_ne _ _ hT]; exact h2, fun k r hk => ?_⟩
  obtain ⟨a, a1, a2, a3, a4⟩ := h3 k r hk
  refine ⟨a, a1, a2, a3, ?_⟩
  rw [hup_ne _ _ (by
    rcases hq with rfl | rfl | ⟨k', vs, e1, e2, _⟩
    · exact a2
    · exact a3
    · exact k_ne a4 e1 (Ne.symm e2))]
  exact a4
theorem CS.setO (M : CS h o8 T O Q ts of' pt can) {k x : Nat} (hx : x < 32) : CS (hup h O (100, (of'.map vI).set k (vI x))) o8 T O Q ts (of'.set k x) pt can := by
  have K := M.kinds
  obtain ⟨m1, m2, m3, m4, m5, m6, m7, m8, m9, m10, m11⟩ := M
  refine ⟨by rw [hup_ne _ _ K.2.1]; exact m1, m2.hup (Or.inl rfl) K.2.2.2.1 _, by rw [hup_self, IA, List.map_set], by rw [hup_ne _ _ m5.symm]; exact m4, m5, by rw [List.length_set]; exact m6, m7, m8, m9, fun y hy => ?_, m11⟩
  rcases List.mem_or_eq_of_mem_set hy with z | z
  · exact m10 y z
  · rw [z]; exact hx
theorem CS.setQ (M : CS h o8 T O Q ts of' pt can) {k x : Nat} (hx : x < 32) : CS (hup h Q (100, (pt.map vI).set k (vI x))) o8 T O Q ts of' (pt.set k x) can := by
  have K := M.kinds
  obtain ⟨m1, m2, m3, m4, m5, m6, m7, m8, m9, m10, m11⟩ := M
  refine ⟨by rw [hup_ne _ _ K.2.2.1]; exact m1, m2.hup (Or.inr (Or.inl rfl)) K.2.2.2.2 _, by rw [hup_ne _ _ m5]; exact m3, by rw [hup_self, IA, List.map_set], m5, m6, by rw [List.length_set]; exact m7, m8, m9, m10, fun y hy => ?_⟩
  rcases List.mem_or_eq_of_mem_set hy with z | z
  · exact m11 y z
  · rw [z]; exact hx
theorem CS.setC (M : CS h o8 T O Q ts of' pt can) (b : Bool) : CS (hup h o8 (10, [.ref T, .ref O, .ref Q, vI ts.length, .int (bI b)])) o8 T O Q ts of' pt b := by
  have K := M.kinds
  obtain ⟨m1, m2, m3, m4, m5⟩ := M
  exact ⟨hup_self _ _ _, m2.hup (Or.inr (Or.inr ⟨_, _, m1, by decide, K.1⟩)) K.1.symm _, by rw [hup_ne _ _ K.2.1.symm]; exact m3, by rw [hup_ne _ _ K.2.2.1.symm]; exact m4, m5⟩
theorem CS.push (M : CS h o8 T O Q ts of' pt can) {u : Nat} {t : List Nat} (hu : h u = some (IA t)) (huO : u ≠ O) (huQ : u ≠ Q) (ht : TW t ∧ t.length ≤ 16) (hl : ts.length < 32) : ∃ vs, h T = some (105, vs) ∧ vs.length = 32 ∧
    CS (hup (hup (hup h T (105, vs.set ts.length (.ref u))) O (100, (of'.map vI).set ts.length (vI ts.length))) o8 (10, [.ref T, .ref O, .ref Q, vI (ts.length + 1), .int (bI can)])) o8 T O Q (ts ++ [t]) (of'.set ts.length ts.length) pt can := by
  have K := M.kinds
  obtain ⟨m1, ⟨as, a1, a2, a3⟩, m3, m4, m5, m6, m7, m8, m9, m10, m11⟩ := M
  refine ⟨_, a2, filR_len (by omega), by rw [hup_self, List.length_append]; rfl, ⟨as ++ [u], by rw [List.length_append, List.length_append, a1]; rfl, ?_, fun k r hk => ?_⟩, ?_, ?_, m5, by rw [List.length_set]; exact m6, m7, by rw [List.length_append]; show ts.length + 1 ≤ 32; omega, fun y hy => ?_, fun y hy => ?_, m11⟩
  · rw [hup_ne _ _ K.1.symm, hup_ne _ _ K.2.2.2.1, hup_self, ← a1, filR_set (by omega)]
  · have keep : ∀ a x, a ≠ O → h a = some (IA x) → (hup (hup (hup h T (105, (filR as 32).set ts.length (.ref u))) O (100, (of'.map vI).set ts.length (vI ts.length))) o8 (10, [.ref T, .ref O, .ref Q, vI (ts.length + 1), .int (bI can)])) a = some (IA x) := fun a x ha e => by
      rw [hup_ne _ _ (k_ne e m1 (by decide)), hup_ne _ _ ha, hup_ne _ _ (IA_ne e a2)]
      exact e
    rcases Nat.lt_or_ge k ts.length with z | z
    · rw [List.getElem?_append_left z] at hk
      obtain ⟨a, e1, e2, e3, e4⟩ := a3 k r hk
      exact ⟨a, by rw [List.getElem?_append_left (by omega)]; exact e1, e2, e3, keep a r e2 e4⟩
    · have hk2 : k = ts.length := by have := (List.getElem?_eq_some_iff.mp hk).1; rw [List.length_append, List.length_singleton] at this; omega
      rw [hk2, List.getElem?_concat_length] at hk
      cases hk
      exact ⟨u, by rw [hk2, ← a1]; exact List.getElem?_concat_length, huO, huQ, keep u t huO hu⟩
  · rw [hup_ne _ _ K.2.1.symm, hup_self, IA, List.map_set]
  · rw [hup_ne _ _ K.2.2.1.symm, hup_ne _ _ m5.symm, hup_ne _ _ K.2.2.2.2.symm]
    exact m4
  · rcases List.mem_append.mp hy with z | z
    · exact m9 y z
    · simp at z; rw [z]; exact ht
  · rcases List.mem_or_eq_of_mem_set hy with z | z
    · exact m10 y z
    · rw [z]; exact hl
theorem relF_lt {a b : Nat} (hO : ∀ x ∈ of', x < 32) (ha : a < 32) : ∀ k, ∀ x ∈ relF of' a b k, x < 32
  | 0 => hO
  | k + 1 => by
    unfold relF
    split
    · intro y hy
      rcases List.mem_or_eq_of_mem_set hy with z | z
      · exact relF_lt hO ha k y z
      · rw [z]; exact ha
    · exact relF_lt hO ha k
end CS2
section M73
variable {la : Launch} {D : va_G} {cA : Nat → ClassId} {B0 pa : Nat} {o8 T O Q : Nat} {ts : List (List Nat)} {of' pt : List Nat} {can : Bool}
set_option maxHeartbeats 8000000 in
theorem c_come (h : AH) (M : CS h o8 T O Q ts of' pt can) {u : Nat} {t : List Nat} (hu : h u = some (IA t)) (huO : u ≠ O) (huQ : u ≠ Q) (ht : TW t ∧ t.length ≤ 16) (hl : t ∉ ts → ts.length < 32) : CT la D cA B0 pa yX8_come cX8_come 3 none (rmD 3 0 0) [.ref o8, .ref u] h (fun v h' => v = none ∧ CS h' o8 T O Q (comeT ts t) (comeO ts of' t) pt can ∧ Fc o8 T O Q h h') := by
  refine CT_of (by decide +kernel) (Nat.le_of_ble_eq_true rfl) ?_
  intro p e s m args below meth c X E hr hlk hnm
  have dk : ∀ {pc : Nat} {q : Instr × Nat}, lkd DX8_come pc = some q → decode cX8_come pc = .ok q := lkd_ok DX8_come_ok
  have h32 : ts.length ≤ 32 := M.2.2.2.2.2.2.2.1
  have loop : ∀ (d k : Nat) (l : List (Nat × Value)), lsel l [2, 1, 0] = [(2, vI k), (1, .ref u), (0, .ref o8)] → k + d = ts.length → (∀ i, i < k → ts[i]? ≠ some t) → WR p la e (rmD 3 0 0) s m args below meth c D cA B0 3 (fun v h' => v = none ∧ CS h' o8 T O Q (comeT ts t) (comeO ts of' t) pt can ∧ Fc o8 T O Q h h') 2 l [] h 0 0 := by
    intro d
    induction d with
    | zero =>
      intro k l hl' hk hm
      have hkt : k = ts.length := by omega
      subst hkt
      have hnt : t ∉ ts := fun z => by
        obtain ⟨i, hi⟩ := List.getElem?_of_mem z
        exact hm i (List.getElem?_eq_some_iff.mp hi).1 hi
      have hlt := hl hnt
      obtain ⟨vs, v1, v2, M'⟩ := M.push hu huO huQ ht hlt
      have K := M.kinds
      refine WS.sel [2, 1, 0] hl' ?_
      repeat refine fst1_ok X (dk rfl) rfl ?_
      refine getf_ok X flX8_35 (dk rfl) M.1 rfl ?_
      refine br_ok X (dk rfl) rfl (show ((7 : Nat) : Int) + 23 = ((30 : Nat) : Int) from rfl) (fun _ => ?_) (fun c1 => absurd ((nI_leI (by omega) (by omega)).mpr (by omega)) c1)
      refine fst1_ok X (dk rfl) rfl ?_
      refine getf_ok X flX8_11 (dk rfl) M.1 rfl ?_
      refine fst1_ok X (dk rfl) rfl ?_
      refine getf_ok X flX8_35 (dk rfl) M.1 rfl ?_
      refine fst1_ok X (dk rfl) rfl ?_
      refine str_ok X (dk rfl) v1 hu (by omega) (by omega) ?_
      have q1 : hup h T (105, vs.set ts.length (.ref u)) o8 = some (10, [.ref T, .ref O, .ref Q, vI ts.length, .int (bI can)]) := by rw [hup_ne _ _ K.1]; exact M.1
      have q2 : hup h T (105, vs.set ts.length (.ref u)) O = some (IA of') := by rw [hup_ne _ _ K.2.2.2.1.symm]; exact M.2.2.1
      refine fst1_ok X (dk rfl) rfl ?_
      refine getf_ok X flX8_17 (dk rfl) q1 rfl ?_
      refine fst1_ok X (dk rfl) rfl ?_
      refine getf_ok X flX8_35 (dk rfl) q1 rfl ?_
      refine fst1_ok X (dk rfl) rfl ?_
      refine getf_ok X flX8_35 (dk rfl) q1 rfl ?_
      refine sti_ok X (dk rfl) q2 (by rw [List.length_map, M.2.2.2.2.2.1]; omega) (by rw [List.length_map, M.2.2.2.2.2.1]; omega) ?_
      have q3 : hup (hup h T (105, vs.set ts.length (.ref u))) O (100, (of'.map vI).set ts.length (.int (nI ts.length))) o8 = some (10, [.ref T, .ref O, .ref Q, vI ts.length, .int (bI can)]) := by rw [hup_ne _ _ K.2.1]; exact q1
      iterate 2 refine fst1_ok X (dk rfl) rfl ?_
      refine getf_ok X flX8_35 (dk rfl) q3 rfl ?_
      repeat refine fst1_ok X (dk rfl) rfl ?_
      rw [nI_1', nI_add]
      refine putf_ok X flX8_35 ftX8_3 (Or.inl rfl) rfl rfl (dk rfl) q3 (Nat.le_of_ble_eq_true rfl) ?_
      refine retv_ok X hr hlk (dk rfl) ⟨rfl, ?_, ?_⟩ (Nat.le_refl _) (Nat.le_refl _)
      · unfold comeT comeO
        rw [if_neg hnt, if_neg hnt]
        exact M'
      · exact (((Fc.rf h).set (Or.inr (Or.inl rfl)) _).set (Or.inr (Or.inr (Or.inl rfl))) _).set (Or.inl rfl) _
    | succ d ih =>
      intro k l hl' hk hm
      have f2 : Value.int (nI k + Int32.ofInt 1) = vI (k + 1) := congrArg Value.int (by rw [nI_1', nI_add])
      obtain ⟨vs, a, r, x, t1, t2, t3, t4, t5, t6, t7, t8, t9, t10⟩ := M.term (k := k) (by omega)
      refine WS.sel [2, 1, 0] hl' ?_
      repeat refine fst1_ok X (dk rfl) rfl ?_
      refine getf_ok X flX8_35 (dk rfl) M.1 rfl ?_
      refine br_ok X (dk rfl) rfl (show ((7 : Nat) : Int) + 23 = ((30 : Nat) : Int) from rfl) (fun c1 => absurd (nI_ge' (by omega) (by omega) c1) (by omega)) (fun _ => ?_)
      refine fst1_ok X (dk rfl) rfl ?_
      refine getf_ok X flX8_11 (dk rfl) M.1 rfl ?_
      refine fst1_ok X (dk rfl) rfl ?_
      refine ld5_ok X (dk rfl) t1 t2 (by omega) ?_
      refine fst1_ok X (dk rfl) rfl ?_
      refine callSN_ok (av := [.ref a, .ref u]) (r := []) X E (c_same h t4 hu (by omega) (by omega) t5.lt ht.1.lt) lkX10_same mnX8_62 lsX10_same ⟨Nat.le_of_ble_eq_true rfl, Nat.le_of_ble_eq_true rfl⟩ ⟨Nat.le_of_ble_eq_true rfl, Nat.le_of_ble_eq_true rfl⟩ (Nat.le_of_ble_eq_true rfl) (dk rfl) ?_
      rintro v h2 ⟨rfl, rfl⟩
      by_cases e : r = t
      · rw [if_pos e]
        refine br_ok X (dk rfl) rfl (show ((20 : Nat) : Int) + 4 = ((24 : Nat) : Int) from rfl) (fun c1 => absurd c1 (by decide)) (fun _ => ?_)
        have hm' : t ∈ ts := by rw [← e]; exact List.mem_of_getElem? t3
        refine retv_ok X hr hlk (dk rfl) ⟨rfl, ?_, Fc.rf _⟩ (Nat.le_refl _) (Nat.le_refl _)
        unfold comeT comeO
        rw [if_pos hm', if_pos hm']
        exact M
      · rw [if_neg e]
        refine br_ok X (dk rfl) rfl (show ((20 : Nat) : Int) + 4 = ((24 : Nat) : Int) from rfl) (fun _ => ?_) (fun c1 => absurd rfl c1)
        repeat refine fst1_ok X (dk rfl) rfl ?_
        refine br_ok X (dk rfl) rfl (show ((27 : Nat) : Int) + (-25) = ((2 : Nat) : Int) from rfl) (fun _ => ?_) (fun q => absurd trivial q)
        refine WS.sel (l' := [(2, vI (k + 1)), (1, .ref u), (0, .ref o8)]) [2, 1, 0] (by rw [← f2]; rfl) ?_
        refine ih (k + 1) _ rfl (by omega) (fun i hi => ?_)
        rcases Nat.lt_or_ge i k with z | z
        · exact hm i z
        · have : i = k := by omega
          rw [this, t3]
          exact fun z => e (Option.some.inj z)
  iterate 2 refine fst1_ok X (dk rfl) rfl ?_
  exact loop ts.length 0 _ rfl (Nat.zero_add _) (fun i hi => absurd hi (Nat.not_lt_zero i))
def PtOk (ts : List (List Nat)) (pt : List Nat) : Prop := ∀ a, a < ts.length → ∀ j, j < pF (hdT ts a) → pt.getD (3 * a + j) 0 < ts.length
theorem hdT_pF {h : AH} (M : CS h o8 T O Q ts of' pt can) {a : Nat} (ha : a < ts.length) : pF (hdT ts a) ≤ 3 := by
  obtain ⟨vs, q, r, x, t1, t2, t3, t4, t5, t6, t7, t8, t9, t10⟩ := M.term ha
  unfold hdT
  rw [t9]
  have := t8.lt
  unfold pF
  split <;> omega
def JoC (la : Launch) (D : va_G) (cA : Nat → ClassId) (B0 pa o8 T O Q : Nat) (ts : List (List Nat)) (pt : List Nat) (f : Nat) : Prop := ∀ (h : AH) (of' : List Nat) (can : Bool) (one other : Nat) (o2 : List Nat) (c2 : Bool), CS h o8 T O Q ts of' pt can → one < ts.length → other < ts.length → joinF ts pt f of' can one other = some (o2, c2) →
  CT la D cA B0 pa yX8_join cX8_join 8 none (rmD (f + 1) 0 0) [.ref o8, vI one, vI other] h (fun v h' => v = none ∧ CS h' o8 T O Q ts o2 pt c2 ∧ Fc o8 T O Q h h')
set_option maxHeartbeats 16000000 in
theorem c_join (hP : PtOk ts pt) : ∀ f : Nat, JoC la D cA B0 pa o8 T O Q ts pt f
  | 0 => by
    intro h of' can one other o2 c2 M h1 h2 hJ
    cases hJ
  | f + 1 => by
    have IH := c_join hP f
    intro h of' can one other o2 c2 M h1 h2 hJ
    refine CT_of (by decide +kernel) (Nat.le_of_ble_eq_true rfl) ?_
    intro p e s m args below meth c X E hr hlk hnm
    have dk : ∀ {pc : Nat} {q : Instr × Nat}, lkd DX8_join pc = some q → decode cX8_join pc = .ok q := lkd_ok DX8_join_ok
    have h32 : ts.length ≤ 32 := M.2.2.2.2.2.2.2.1
    obtain ⟨a0, x1, x2, x3⟩ := M.ofx (k := one) (by omega)
    obtain ⟨b0, y1, y2, y3⟩ := M.ofx (k := other) (by omega)
    unfold joinF at hJ
    rw [x3, y3] at hJ
    repeat refine fst1_ok X (dk rfl) rfl ?_
    refine getf_ok X flX8_17 (dk rfl) M.1 rfl ?_
    refine fst1_ok X (dk rfl) rfl ?_
    refine ald_ok X (Or.inl ⟨rfl, rfl⟩) (dk rfl) M.2.2.1 (inA_nI (by omega) (IA_get x1)) ?_
    repeat refine fst1_ok X (dk rfl) rfl ?_
    refine getf_ok X flX8_17 (dk rfl) M.1 rfl ?_
    refine fst1_ok X (dk rfl) rfl ?_
    refine ald_ok X (Or.inl ⟨rfl, rfl⟩) (dk rfl) M.2.2.1 (inA_nI (by omega) (IA_get y1)) ?_
    repeat refine fst1_ok X (dk rfl) rfl ?_
    refine br_ok X (dk rfl) rfl (show ((18 : Nat) : Int) + 10 = ((28 : Nat) : Int) from rfl) (fun c1 => ?_) (fun c1 => ?_)
    · have e0 : a0 = b0 := (nI_eq (by omega) (by omega)).mp c1
      rw [if_pos (Or.inl e0)] at hJ
      cases hJ
      exact retv_ok X hr hlk (dk rfl) ⟨rfl, M, Fc.rf _⟩ (Nat.zero_le _) (Nat.zero_le _)
    have e0 : a0 ≠ b0 := fun z => c1 (by rw [z])
    refine fst1_ok X (dk rfl) rfl ?_
    refine getf_ok X flX8_23 (dk rfl) M.1 rfl ?_
    refine br_ok X (dk rfl) rfl (show ((25 : Nat) : Int) + 4 = ((29 : Nat) : Int) from rfl) (fun c2' => ?_) (fun c2' => ?_)
    rotate_left
    · have ec : can = false := by
        cases can with
        | false => rfl
        | true => exact absurd bI_t c2'
      rw [if_pos (Or.inr ec)] at hJ
      cases hJ
      exact retv_ok X hr hlk (dk rfl) ⟨rfl, M, Fc.rf _⟩ (Nat.zero_le _) (Nat.zero_le _)
    have ec : can = true := by
      cases can with
      | false => exact absurd c2' bI_f
      | true => rfl
    rw [if_neg (fun z => by
      rcases z with z | z
      · exact e0 z
      · rw [ec] at z; cases z)] at hJ
    repeat refine fst1_ok X (dk rfl) rfl ?_
    refine callV_ok (ci := 10) (T := TX8) (N := 5) (av := [vI a0]) (r := []) X E (c_headed h M x2) lkX8_headed mlX8_66 lmX8_headed lpX8_headed ⟨by show 0 + 1 ≤ f + 1 + 1; omega, by show 8 + (3 + 11) + 40 * 0 ≤ 40 * (f + 1 + 1); omega⟩ ⟨Nat.zero_le _, Nat.zero_le _⟩ rfl M.1 (Nat.le_of_ble_eq_true rfl) (dk rfl) ?_
    rintro v h2 ⟨rfl, rfl⟩
    rw [vP_pI]
    repeat refine fst1_ok X (dk rfl) rfl ?_
    refine callV_ok (ci := 10) (T := TX8) (N := 5) (av := [vI b0]) (r := []) X E (c_headed h2 M y2) lkX8_headed mlX8_66 lmX8_headed lpX8_headed ⟨by show 0 + 1 ≤ f + 1 + 1; omega, by show 8 + (3 + 11) + 40 * 0 ≤ 40 * (f + 1 + 1); omega⟩ ⟨Nat.zero_le _, Nat.zero_le _⟩ rfl M.1 (Nat.le_of_ble_eq_true rfl) (dk rfl) ?_
    rintro v h3 ⟨rfl, rfl⟩
    rw [vP_pI]
    have hreL : ∀ k x, x ∈ relF of' a0 b0 k → x < 32 := relF_lt M.2.2.2.2.2.2.2.2.2.1 x2
    -- behind the relabeling
    have after : ∀ (hh : AH) (l : List (Nat × Value)), lsel l [6, 5, 0] = [(6, .int (pI (headF ts of' b0))), (5, .int (pI (headF ts of' a0))), (0, .ref o8)] → CS hh o8 T O Q ts (relF of' a0 b0 ts.length) pt can → Fc o8 T O Q h3 hh → WR p la e (rmD (f + 1 + 1) 0 0) s m args below meth c D cA B0 8 (fun v h' => v = none ∧ CS h' o8 T O Q ts o2 pt c2 ∧ Fc o8 T O Q h3 h') 82 l [] hh 0 0 := by
      intro hh l hl MM FF
      refine WS.sel [6, 5, 0] hl ?_
      refine fst1_ok X (dk rfl) rfl ?_
      cases ha : headF ts of' a0 with
      | none =>
        rw [ha] at hJ
        refine br_ok X (dk rfl) rfl (show ((84 : Nat) : Int) + 8 = ((92 : Nat) : Int) from rfl) (fun _ => ?_) (fun q => absurd (by decide) q)
        cases hJ
        exact retv_ok X hr hlk (dk rfl) ⟨rfl, MM, FF⟩ (Nat.zero_le _) (Nat.zero_le _)
      | some a =>
        have hal := headF_ok ha
        refine br_ok X (dk rfl) rfl (show ((84 : Nat) : Int) + 8 = ((92 : Nat) : Int) from rfl) (fun q => absurd q (nI_pos (by omega))) (fun _ => ?_)
        refine fst1_ok X (dk rfl) rfl ?_
        cases hb : headF ts of' b0 with
        | none =>
          rw [ha, hb] at hJ
          refine br_ok X (dk rfl) rfl (show ((89 : Nat) : Int) + 4 = ((93 : Nat) : Int) from rfl) (fun q => absurd q (by decide)) (fun _ => ?_)
          cases hJ
          exact retv_ok X hr hlk (dk rfl) ⟨rfl, MM, FF⟩ (Nat.zero_le _) (Nat.zero_le _)
        | some b =>
          have hbl := headF_ok hb
          rw [ha, hb] at hJ
          dsimp only at hJ
          refine br_ok X (dk rfl) rfl (show ((89 : Nat) : Int) + 4 = ((93 : Nat) : Int) from rfl) (fun _ => ?_) (fun q => absurd (nI_pos' (by omega)) q)
          obtain ⟨vs, q1, r1, u1, t1, t2, t3, t4, t5, t6, t7, t8, t9, t10⟩ := MM.term hal.1
          obtain ⟨vs', q2, r2, u2, w1, w2, w3, w4, w5, w6, w7, w8, w9, w10⟩ := MM.term hbl.1
          have u18 := t8.lt
          have v18 := w8.lt
          have ea : hdT ts a = u1 := t9
          have eb : hdT ts b = u2 := w9
          rw [ea, eb] at hJ
          refine fst1_ok X (dk rfl) rfl ?_
          refine getf_ok X flX8_11 (dk rfl) MM.1 rfl ?_
          refine fst1_ok X (dk rfl) rfl ?_
          refine ld5_ok X (dk rfl) t1 t2 (by omega) ?_
          refine fst1_ok X (dk rfl) rfl ?_
          refine ald_ok X (Or.inl ⟨rfl, rfl⟩) (dk rfl) t4 (inA_nI (j := 0) (by omega) (IA_get t7)) ?_
          refine fst1_ok X (dk rfl) rfl ?_
          refine getf_ok X flX8_11 (dk rfl) MM.1 rfl ?_
          refine fst1_ok X (dk rfl) rfl ?_
          refine ld5_ok X (dk rfl) w1 w2 (by omega) ?_
          refine fst1_ok X (dk rfl) rfl ?_
          refine ald_ok X (Or.inl ⟨rfl, rfl⟩) (dk rfl) w4 (inA_nI (j := 0) (by omega) (IA_get w7)) ?_
          refine br_ok X (dk rfl) rfl (show ((111 : Nat) : Int) + 9 = ((120 : Nat) : Int) from rfl) (fun c3 => ?_) (fun c3 => ?_)
          · have eu : u1 = u2 := (nI_eq (by omega) (by omega)).mp c3
            rw [if_pos eu] at hJ
            have loop2 : ∀ (n j : Nat) (o1 : List Nat) (c1 : Bool) (hj : AH) (l : List (Nat × Value)), lsel l [7, 6, 5, 0] = [(7, vI j), (6, vI b), (5, vI a), (0, .ref o8)] → j + n = pF u1 → CS hj o8 T O Q ts o1 pt c1 → Fc o8 T O Q h3 hj → joinL (joinF ts pt f) pt a b n j o1 c1 = some (o2, c2) → WR p la e (rmD (f + 1 + 1) 0 0) s m args below meth c D cA B0 8 (fun v h' => v = none ∧ CS h' o8 T O Q ts o2 pt c2 ∧ Fc o8 T O Q h3 h') 123 l [] hj 0 0 := by
              have hp3 : pF u1 ≤ 3 := by rw [← ea]; exact hdT_pF M hal.1
              intro n
              induction n with
              | zero =>
                intro j o1 c1 hj l hl hjn Mj Fj hJ2
                obtain ⟨vs5, q5, r5, z1, m1, m2, m3, m4, m5, m6, m7, m8, m9, m10⟩ := Mj.term hal.1
                have ez : z1 = u1 := by rw [← m9]; exact ea
                subst ez
                cases hJ2
                refine WS.sel [7, 6, 5, 0] hl ?_
                repeat refine fst1_ok X (dk rfl) rfl ?_
                refine getf_ok X flX8_11 (dk rfl) Mj.1 rfl ?_
                refine fst1_ok X (dk rfl) rfl ?_
                refine ld5_ok X (dk rfl) m1 m2 (by omega) ?_
                refine fst1_ok X (dk rfl) rfl ?_
                refine ald_ok X (Or.inl ⟨rfl, rfl⟩) (dk rfl) m4 (inA_nI (j := 0) (by omega) (IA_get m7)) ?_
                refine callSN_ok (av := [vI z1]) (r := [vI j]) X E (c_parts hj (by omega)) lkX10_parts mnX8_39 lsX10_parts ⟨by show 0 + 1 ≤ f + 1 + 1; omega, by show 8 + (1 + 11) + 40 * 0 ≤ 40 * (f + 1 + 1); omega⟩ ⟨Nat.zero_le _, Nat.zero_le _⟩ (Nat.le_of_ble_eq_true rfl) (dk rfl) ?_
                rintro v h4 ⟨rfl, rfl⟩
                refine br_ok X (dk rfl) rfl (show ((137 : Nat) : Int) + 37 = ((174 : Nat) : Int) from rfl) (fun _ => ?_) (fun q => absurd ((nI_leI (by omega) (by omega)).mpr (by omega)) q)
                exact retv_ok X hr hlk (dk rfl) ⟨rfl, Mj, Fj⟩ (Nat.zero_le _) (Nat.zero_le _)
              | succ n ih =>
                intro j o1 c1 hj l hl hjn Mj Fj hJ2
                obtain ⟨vs5, q5, r5, z1, m1, m2, m3, m4, m5, m6, m7, m8, m9, m10⟩ := Mj.term hal.1
                have ez : z1 = u1 := by rw [← m9]; exact ea
                subst ez
                have f2 : Value.int (nI j + Int32.ofInt 1) = vI (j + 1) := congrArg Value.int (by rw [nI_1', nI_add])
                obtain ⟨p1, p2, p3, p4⟩ := Mj.ptx (k := 3 * a + j) (by omega)
                obtain ⟨s1, s2, s3, s4⟩ := Mj.ptx (k := 3 * b + j) (by omega)
                have l1 := hP a hal.1 j (by rw [ea]; omega)
                have l2 := hP b hbl.1 j (by rw [eb, ← eu]; omega)
                rw [p4] at l1
                rw [s4] at l2
                unfold joinL at hJ2
                rw [p4, s4] at hJ2
                refine WS.sel [7, 6, 5, 0] hl ?_
                repeat refine fst1_ok X (dk rfl) rfl ?_
                refine getf_ok X flX8_11 (dk rfl) Mj.1 rfl ?_
                refine fst1_ok X (dk rfl) rfl ?_
                refine ld5_ok X (dk rfl) m1 m2 (by omega) ?_
                refine fst1_ok X (dk rfl) rfl ?_
                refine ald_ok X (Or.inl ⟨rfl, rfl⟩) (dk rfl) m4 (inA_nI (j := 0) (by omega) (IA_get m7)) ?_
                refine callSN_ok (av := [vI z1]) (r := [vI j]) X E (c_parts hj (by omega)) lkX10_parts mnX8_39 lsX10_parts ⟨by show 0 + 1 ≤ f + 1 + 1; omega, by show 8 + (1 + 11) + 40 * 0 ≤ 40 * (f + 1 + 1); omega⟩ ⟨Nat.zero_le _, Nat.zero_le _⟩ (Nat.le_of_ble_eq_true rfl) (dk rfl) ?_
                rintro v h4 ⟨rfl, rfl⟩
                refine br_ok X (dk rfl) rfl (show ((137 : Nat) : Int) + 37 = ((174 : Nat) : Int) from rfl) (fun q => absurd (nI_ge' (by omega) (by omega) q) (by omega)) (fun _ => ?_)
                repeat refine fst1_ok X (dk rfl) rfl ?_
                refine getf_ok X flX8_20 (dk rfl) Mj.1 rfl ?_
                repeat refine fst1_ok X (dk rfl) rfl ?_
                rw [nI_3', nI_mul, nI_add]
                refine ald_ok X (Or.inl ⟨rfl, rfl⟩) (dk rfl) Mj.2.2.2.1 (inA_nI (by omega) (IA_get p2)) ?_
                refine fst1_ok X (dk rfl) rfl ?_
                refine getf_ok X flX8_20 (dk rfl) Mj.1 rfl ?_
                repeat refine fst1_ok X (dk rfl) rfl ?_
                rw [nI_3', nI_mul, nI_add]
                refine ald_ok X (Or.inl ⟨rfl, rfl⟩) (dk rfl) Mj.2.2.2.1 (inA_nI (by omega) (IA_get s2)) ?_
                cases hg : joinF ts pt f o1 c1 p1 s1 with
                | none => rw [hg] at hJ2; cases hJ2
                | some g =>
                obtain ⟨o3, c3'⟩ := g
                rw [hg] at hJ2
                dsimp only at hJ2
                refine callV_ok (ci := 10) (T := TX8) (N := 5) (av := [vI p1, vI s1]) (r := []) X E (IH _ o1 c1 p1 s1 o3 c3' Mj l1 l2 hg) lkX8_join mlX8_50 lmX8_join lpX8_join ⟨by show f + 1 + 1 ≤ f + 1 + 1; omega, by show 8 + (8 + 11) + 40 * (f + 1) ≤ 40 * (f + 1 + 1); omega⟩ ⟨Nat.zero_le _, Nat.zero_le _⟩ rfl Mj.1 (Nat.le_of_ble_eq_true rfl) (dk rfl) ?_
                rintro v h5 ⟨rfl, M5, F5⟩
                repeat refine fst1_ok X (dk rfl) rfl ?_
                refine br_ok X (dk rfl) rfl (show ((171 : Nat) : Int) + (-48) = ((123 : Nat) : Int) from rfl) (fun _ => ?_) (fun q => absurd trivial q)
                refine WS.sel (l' := [(7, vI (j + 1)), (6, vI b), (5, vI a), (0, .ref o8)]) [7, 6, 5, 0] (by rw [← f2]; rfl) ?_
                exact ih (j + 1) o3 c3' h5 _ rfl (by omega) M5 (Fj.trans F5) hJ2
            iterate 2 refine fst1_ok X (dk rfl) rfl ?_
            exact loop2 (pF u1) 0 _ _ hh _ rfl (Nat.zero_add _) MM FF hJ
          · have eu : u1 ≠ u2 := fun z => c3 (by rw [z])
            rw [if_neg eu] at hJ
            cases hJ
            repeat refine fst1_ok X (dk rfl) rfl ?_
            refine putf_ok X flX8_23 ftX8_4 (Or.inl rfl) rfl rfl (dk rfl) MM.1 (Nat.le_of_ble_eq_true rfl) ?_
            exact retv_ok X hr hlk (dk rfl) ⟨rfl, MM.setC false, FF.set (Or.inl rfl) _⟩ (Nat.zero_le _) (Nat.zero_le _)
    have loop : ∀ (d k : Nat) (hh : AH) (l : List (Nat × Value)), lsel l [7, 6, 5, 4, 3, 0] = [(7, vI k), (6, .int (pI (headF ts of' b0))), (5, .int (pI (headF ts of' a0))), (4, vI b0), (3, vI a0), (0, .ref o8)] → k + d = ts.length → CS hh o8 T O Q ts (relF of' a0 b0 k) pt can → Fc o8 T O Q h3 hh → WR p la e (rmD (f + 1 + 1) 0 0) s m args below meth c D cA B0 8 (fun v h' => v = none ∧ CS h' o8 T O Q ts o2 pt c2 ∧ Fc o8 T O Q h3 h') 47 l [] hh 0 0 := by
      intro d
      induction d with
      | zero =>
        intro k hh l hl hk MM FF
        have hkt : k = ts.length := by omega
        subst hkt
        refine WS.sel [7, 6, 5, 4, 3, 0] hl ?_
        repeat refine fst1_ok X (dk rfl) rfl ?_
        refine getf_ok X flX8_35 (dk rfl) MM.1 rfl ?_
        refine br_ok X (dk rfl) rfl (show ((53 : Nat) : Int) + 29 = ((82 : Nat) : Int) from rfl) (fun _ => ?_) (fun c1 => absurd ((nI_leI (by omega) (by omega)).mpr (by omega)) c1)
        exact after hh _ rfl MM FF
      | succ d ih =>
        intro k hh l hl hk MM FF
        have f2 : Value.int (nI k + Int32.ofInt 1) = vI (k + 1) := congrArg Value.int (by rw [nI_1', nI_add])
        obtain ⟨y, z1, z2, z3⟩ := MM.ofx (k := k) (by omega)
        have next9 : ∀ hh : AH, CS hh o8 T O Q ts (relF of' a0 b0 (k + 1)) pt can → Fc o8 T O Q h3 hh → ∀ l : List (Nat × Value), lsel l [7, 6, 5, 4, 3, 0] = [(7, vI k), (6, .int (pI (headF ts of' b0))), (5, .int (pI (headF ts of' a0))), (4, vI b0), (3, vI a0), (0, .ref o8)] → WR p la e (rmD (f + 1 + 1) 0 0) s m args below meth c D cA B0 8 (fun v h' => v = none ∧ CS h' o8 T O Q ts o2 pt c2 ∧ Fc o8 T O Q h3 h') 76 l [] hh 0 0 := by
          intro hh MM FF l hl
          refine WS.sel [7, 6, 5, 4, 3, 0] hl ?_
          repeat refine fst1_ok X (dk rfl) rfl ?_
          refine br_ok X (dk rfl) rfl (show ((79 : Nat) : Int) + (-32) = ((47 : Nat) : Int) from rfl) (fun _ => ?_) (fun q => absurd trivial q)
          refine WS.sel (l' := [(7, vI (k + 1)), (6, .int (pI (headF ts of' b0))), (5, .int (pI (headF ts of' a0))), (4, vI b0), (3, vI a0), (0, .ref o8)]) [7, 6, 5, 4, 3, 0] (by rw [← f2]; rfl) ?_
          exact ih (k + 1) hh _ rfl (by omega) MM FF
        refine WS.sel [7, 6, 5, 4, 3, 0] hl ?_
        repeat refine fst1_ok X (dk rfl) rfl ?_
        refine getf_ok X flX8_35 (dk rfl) MM.1 rfl ?_
        refine br_ok X (dk rfl) rfl (show ((53 : Nat) : Int) + 29 = ((82 : Nat) : Int) from rfl) (fun c1 => absurd (nI_ge' (by omega) (by omega) c1) (by omega)) (fun _ => ?_)
        refine fst1_ok X (dk rfl) rfl ?_
        refine getf_ok X flX8_17 (dk rfl) MM.1 rfl ?_
        refine fst1_ok X (dk rfl) rfl ?_
        refine ald_ok X (Or.inl ⟨rfl, rfl⟩) (dk rfl) MM.2.2.1 (inA_nI (by omega) (IA_get z1)) ?_
        refine fst1_ok X (dk rfl) rfl ?_
        refine br_ok X (dk rfl) rfl (show ((65 : Nat) : Int) + 11 = ((76 : Nat) : Int) from rfl) (fun c4 => ?_) (fun c4 => ?_)
        · refine next9 hh ?_ FF _ rfl
          rw [relF_succ, if_neg (fun z => c4 (by rw [← z3, z]))]
          exact MM
        · have ey : y = b0 := (nI_eq (by omega) (by omega)).mp (Decidable.not_not.mp c4)
          refine fst1_ok X (dk rfl) rfl ?_
          refine getf_ok X flX8_17 (dk rfl) MM.1 rfl ?_
          repeat refine fst1_ok X (dk rfl) rfl ?_
          refine sti_ok X (dk rfl) MM.2.2.1 (by rw [List.length_map, MM.2.2.2.2.2.1]; omega) (by rw [List.length_map, MM.2.2.2.2.2.1]; omega) ?_
          refine next9 _ ?_ (FF.set (Or.inr (Or.inr (Or.inl rfl))) _) _ rfl
          rw [relF_succ, if_pos (by rw [z3, ey])]
          exact MM.setO x2
    iterate 3 refine fst1_ok X (dk rfl) rfl ?_
    exact loop ts.length 0 h3 _ rfl (Nat.zero_add _) M (Fc.rf _)
end M73
