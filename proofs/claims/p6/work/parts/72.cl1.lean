/-! the reference's classes, 1: the object; headed, number, come -/
/-- the rows of the terms, none of them the arrays O and Q -/
def CR (h : AH) (T O Q : Nat) (ts : List (List Nat)) : Prop := ∃ as : List Nat, as.length = ts.length ∧ h T = some (105, filR as 32) ∧ ∀ (k : Nat) (r : List Nat), ts[k]? = some r → ∃ a, as[k]? = some a ∧ a ≠ O ∧ a ≠ Q ∧ h a = some (IA r)
def CS (h : AH) (o8 T O Q : Nat) (ts : List (List Nat)) (of' pt : List Nat) (can : Bool) : Prop :=
  h o8 = some (10, [.ref T, .ref O, .ref Q, vI ts.length, .int (bI can)]) ∧ CR h T O Q ts ∧ h O = some (IA of') ∧ h Q = some (IA pt) ∧ O ≠ Q ∧ of'.length = 32 ∧ pt.length = 96 ∧ ts.length ≤ 32 ∧ (∀ t ∈ ts, TW t ∧ t.length ≤ 16) ∧ (∀ x ∈ of', x < 32) ∧ (∀ x ∈ pt, x < 32)
def Fc (o8 T O Q : Nat) (h h' : AH) : Prop := ∀ (b : Nat) (c : AC), b ≠ o8 → b ≠ T → b ≠ O → b ≠ Q → h b = some c → h' b = some c
theorem Fc.rf {o8 T O Q : Nat} (h : AH) : Fc o8 T O Q h h := fun _ _ _ _ _ _ e => e
theorem Fc.trans {o8 T O Q : Nat} {h h1 h2 : AH} (a : Fc o8 T O Q h h1) (b : Fc o8 T O Q h1 h2) : Fc o8 T O Q h h2 := fun x c q1 q2 q3 q4 e => b x c q1 q2 q3 q4 (a x c q1 q2 q3 q4 e)
theorem Fc.ext {o8 T O Q : Nat} {h h' : AH} (a : Ext h h') : Fc o8 T O Q h h' := fun x c _ _ _ _ e => a x c e
theorem Fc.set {o8 T O Q : Nat} {h h' : AH} (a : Fc o8 T O Q h h') {q : Nat} (hq : q = o8 ∨ q = T ∨ q = O ∨ q = Q) (c : AC) : Fc o8 T O Q h (hup h' q c) := fun x c' q1 q2 q3 q4 e => by
  rw [hup_ne _ _ (by rcases hq with rfl | rfl | rfl | rfl <;> assumption)]
  exact a x c' q1 q2 q3 q4 e
section CSs
variable {h : AH} {o8 T O Q : Nat} {ts : List (List Nat)} {of' pt : List Nat} {can : Bool}
theorem CR.ext {h' : AH} (H : CR h T O Q ts) (E : Ext h h') : CR h' T O Q ts := by
  obtain ⟨as, h1, h2, h3⟩ := H
  refine ⟨as, h1, E _ _ h2, fun k r hk => ?_⟩
  obtain ⟨a, a1, a2, a3, a4⟩ := h3 k r hk
  exact ⟨a, a1, a2, a3, E _ _ a4⟩
theorem CS.ext {h' : AH} (M : CS h o8 T O Q ts of' pt can) (E : Ext h h') : CS h' o8 T O Q ts of' pt can := by
  obtain ⟨m1, m2, m3, m4, m5⟩ := M
  exact ⟨E _ _ m1, m2.ext E, E _ _ m3, E _ _ m4, m5⟩
theorem CS.kinds (M : CS h o8 T O Q ts of' pt can) : o8 ≠ T ∧ o8 ≠ O ∧ o8 ≠ Q ∧ T ≠ O ∧ T ≠ Q := by
  obtain ⟨m1, ⟨as, _, m2, _⟩, m3, m4, _⟩ := M
  exact ⟨k_ne m1 m2 (by decide), k_ne m1 m3 (by decide), k_ne m1 m4 (by decide), k_ne m2 m3 (by decide), k_ne m2 m4 (by decide)⟩
theorem CS.term (M : CS h o8 T O Q ts of' pt can) {k : Nat} (hk : k < ts.length) : ∃ (vs : List Value) (a : Nat) (r : List Nat) (x : Nat), h T = some (105, vs) ∧ vs[k]? = some (.ref a) ∧ ts[k]? = some r ∧ h a = some (IA r) ∧ TW r ∧ r.length ≤ 16 ∧ r[0]? = some x ∧ okL x ∧ (ts.getD k []).getD 0 0 = x ∧ ts.getD k [] = r := by
  obtain ⟨m1, ⟨as, a1, a2, a3⟩, m3, m4, m5, m6, m7, m8, m9, -⟩ := M
  obtain ⟨r, hr⟩ : ∃ r, ts[k]? = some r := ⟨ts[k], by simp [hk]⟩
  obtain ⟨a, e1, e2, e3, e4⟩ := a3 k r hr
  obtain ⟨w1, w2⟩ := m9 r (List.mem_of_getElem? hr)
  have hp := w1.pos
  obtain ⟨x, hx⟩ : ∃ x, r[0]? = some x := ⟨r[0], by simp [hp]⟩
  have e5 : ts.getD k [] = r := by rw [List.getD_eq_getElem?_getD, hr]; rfl
  exact ⟨_, a, r, x, a2, filR_get e1, hr, e4, w1, w2, hx, w1.2 x (List.mem_of_getElem? hx), by rw [e5, List.getD_eq_getElem?_getD, hx]; rfl, e5⟩
theorem CS.ofx (M : CS h o8 T O Q ts of' pt can) {k : Nat} (hk : k < 32) : ∃ x, of'[k]? = some x ∧ x < 32 ∧ of'.getD k 0 = x := by
  obtain ⟨m1, m2, m3, m4, m5, m6, m7, m8, m9, m10, -⟩ := M
  obtain ⟨y, e1, e2, e3⟩ := getD_mem (xs := of') (j := k) (by omega)
  exact ⟨y, e1, m10 y e3, e2⟩
theorem CS.ptx (M : CS h o8 T O Q ts of' pt can) {k : Nat} (hk : k < 96) : ∃ x, pt[k]? = some x ∧ x < 32 ∧ pt.getD k 0 = x := by
  obtain ⟨m1, m2, m3, m4, m5, m6, m7, m8, m9, m10, m11⟩ := M
  obtain ⟨y, e1, e2, e3⟩ := getD_mem (xs := pt) (j := k) (by omega)
  exact ⟨y, e1, m11 y e3, e2⟩
end CSs
/-- the first letter of a term -/
def hdT (ts : List (List Nat)) (k : Nat) : Nat := (ts.getD k []).getD 0 0
def hdF (ts : List (List Nat)) (of' : List Nat) (its : Nat) : Nat → Nat → Option Nat
  | 0, _ => none
  | n + 1, k => if of'.getD k 0 = its ∧ 10 ≤ hdT ts k then some k else hdF ts of' its n (k + 1)
def headF (ts : List (List Nat)) (of' : List Nat) (its : Nat) : Option Nat := hdF ts of' its ts.length 0
theorem hdF_ok {ts : List (List Nat)} {of' : List Nat} {its : Nat} : ∀ (n k a : Nat), hdF ts of' its n k = some a → k ≤ a ∧ a < k + n ∧ of'.getD a 0 = its ∧ 10 ≤ hdT ts a
  | 0, k, a, h => by cases h
  | n + 1, k, a, h => by
    unfold hdF at h
    split at h
    · rename_i c
      cases h
      exact ⟨Nat.le_refl _, by omega, c⟩
    · obtain ⟨h1, h2, h3⟩ := hdF_ok n (k + 1) a h
      exact ⟨by omega, by omega, h3⟩
theorem hdF_no {ts : List (List Nat)} {of' : List Nat} {its : Nat} : ∀ (n k : Nat), hdF ts of' its n k = none → ∀ i, k ≤ i → i < k + n → of'.getD i 0 = its → hdT ts i < 10
  | 0, k, h, i, h1, h2, h3 => by omega
  | n + 1, k, h, i, h1, h2, h3 => by
    unfold hdF at h
    split at h
    · cases h
    · rename_i c
      rcases Nat.eq_or_lt_of_le h1 with q | q
      · subst q
        rcases Nat.lt_or_ge (hdT ts k) 10 with z | z
        · exact z
        · exact absurd ⟨h3, z⟩ c
      · exact hdF_no n (k + 1) h i (by omega) (by omega) h3
theorem headF_ok {ts : List (List Nat)} {of' : List Nat} {its a : Nat} (h : headF ts of' its = some a) : a < ts.length ∧ of'.getD a 0 = its ∧ 10 ≤ hdT ts a := by
  obtain ⟨h1, h2, h3⟩ := hdF_ok _ _ _ h
  exact ⟨by omega, h3⟩
theorem headF_no {ts : List (List Nat)} {of' : List Nat} {its : Nat} (h : headF ts of' its = none) {i : Nat} (hi : i < ts.length) (e : of'.getD i 0 = its) : hdT ts i < 10 := hdF_no _ _ h i (Nat.zero_le _) (by omega) e
section M72
variable {la : Launch} {D : va_G} {cA : Nat → ClassId} {B0 pa : Nat} {o8 T O Q : Nat} {ts : List (List Nat)} {of' pt : List Nat} {can : Bool}
set_option maxHeartbeats 8000000 in
theorem c_headed (h : AH) (M : CS h o8 T O Q ts of' pt can) {its : Nat} (hits : its < 32) : CT la D cA B0 pa yX8_headed cX8_headed 3 (some .int) (rmD 0 0 0) [.ref o8, vI its] h (fun v h' => v = some (vP (headF ts of' its)) ∧ h' = h) := by
  refine CT_of (by decide +kernel) (Nat.le_of_ble_eq_true rfl) ?_
  intro p e s m args below meth c X E hr hlk hnm
  have dk : ∀ {pc : Nat} {q : Instr × Nat}, lkd DX8_headed pc = some q → decode cX8_headed pc = .ok q := lkd_ok DX8_headed_ok
  have h32 : ts.length ≤ 32 := M.2.2.2.2.2.2.2.1
  have loop : ∀ (d k : Nat) (l : List (Nat × Value)), lsel l [2, 1, 0] = [(2, vI k), (1, vI its), (0, .ref o8)] → k + d = ts.length → hdF ts of' its d k = headF ts of' its → WR p la e (rmD 0 0 0) s m args below meth c D cA B0 3 (fun v h' => v = some (vP (headF ts of' its)) ∧ h' = h) 2 l [] h 0 0 := by
    intro d
    induction d with
    | zero =>
      intro k l hl hk hh
      refine WS.sel [2, 1, 0] hl ?_
      repeat refine fst1_ok X (dk rfl) rfl ?_
      refine getf_ok X flX8_35 (dk rfl) M.1 rfl ?_
      refine br_ok X (dk rfl) rfl (show ((7 : Nat) : Int) + 34 = ((41 : Nat) : Int) from rfl) (fun _ => ?_) (fun c1 => absurd ((nI_leI (by omega) (by omega)).mpr (by omega)) c1)
      refine fst1_ok X (dk rfl) rfl ?_
      exact reti_ok X hr hlk rfl (dk rfl) ⟨by rw [← hh]; rfl, rfl⟩ (Nat.le_refl _) (Nat.le_refl _)
    | succ d ih =>
      intro k l hl hk hh
      obtain ⟨vs, a, r, x, t1, t2, t3, t4, t5, t6, t7, t8, t9, t10⟩ := M.term (k := k) (by omega)
      obtain ⟨y, y1, y2, y3⟩ := M.ofx (k := k) (by omega)
      have hx18 := t8.lt
      have f2 : Value.int (nI k + Int32.ofInt 1) = vI (k + 1) := congrArg Value.int (by rw [nI_1', nI_add])
      have next9 : hdF ts of' its d (k + 1) = headF ts of' its → ∀ l : List (Nat × Value), lsel l [2, 1, 0] = [(2, vI k), (1, vI its), (0, .ref o8)] → WR p la e (rmD 0 0 0) s m args below meth c D cA B0 3 (fun v h' => v = some (vP (headF ts of' its)) ∧ h' = h) 35 l [] h 0 0 := by
        intro hh l hl
        refine WS.sel [2, 1, 0] hl ?_
        repeat refine fst1_ok X (dk rfl) rfl ?_
        refine br_ok X (dk rfl) rfl (show ((38 : Nat) : Int) + (-36) = ((2 : Nat) : Int) from rfl) (fun _ => ?_) (fun q => absurd trivial q)
        refine WS.sel (l' := [(2, vI (k + 1)), (1, vI its), (0, .ref o8)]) [2, 1, 0] (by rw [← f2]; rfl) ?_
        exact ih (k + 1) _ rfl (by omega) hh
      unfold hdF at hh
      refine WS.sel [2, 1, 0] hl ?_
      repeat refine fst1_ok X (dk rfl) rfl ?_
      refine getf_ok X flX8_35 (dk rfl) M.1 rfl ?_
      refine br_ok X (dk rfl) rfl (show ((7 : Nat) : Int) + 34 = ((41 : Nat) : Int) from rfl) (fun c1 => absurd (nI_ge' (by omega) (by omega) c1) (by omega)) (fun _ => ?_)
      refine fst1_ok X (dk rfl) rfl ?_
      refine getf_ok X flX8_17 (dk rfl) M.1 rfl ?_
      refine fst1_ok X (dk rfl) rfl ?_
      refine ald_ok X (Or.inl ⟨rfl, rfl⟩) (dk rfl) M.2.2.1 (inA_nI (by omega) (IA_get y1)) ?_
      refine fst1_ok X (dk rfl) rfl ?_
      refine br_ok X (dk rfl) rfl (show ((17 : Nat) : Int) + 18 = ((35 : Nat) : Int) from rfl) (fun c1 => ?_) (fun c1 => ?_)
      · rw [if_neg (fun z => c1 (by rw [← y3, z.1]))] at hh
        exact next9 hh _ rfl
      · have hy : y = its := (nI_eq (by omega) (by omega)).mp (Decidable.not_not.mp c1)
        refine fst1_ok X (dk rfl) rfl ?_
        refine getf_ok X flX8_11 (dk rfl) M.1 rfl ?_
        refine fst1_ok X (dk rfl) rfl ?_
        refine ld5_ok X (dk rfl) t1 t2 (by omega) ?_
        refine fst1_ok X (dk rfl) rfl ?_
        refine ald_ok X (Or.inl ⟨rfl, rfl⟩) (dk rfl) t4 (inA_nI (j := 0) (by omega) (IA_get t7)) ?_
        refine fst1_ok X (dk rfl) rfl ?_
        rw [nI_10]
        refine br_ok X (dk rfl) rfl (show ((30 : Nat) : Int) + 5 = ((35 : Nat) : Int) from rfl) (fun c2 => ?_) (fun c2 => ?_)
        · have : x < 10 := (nI_ltI (by omega) (by omega)).mp c2
          rw [if_neg (fun z => by have := z.2; unfold hdT at this; rw [t9] at this; omega)] at hh
          exact next9 hh _ rfl
        · have : 10 ≤ x := Nat.le_of_not_lt (fun z => c2 ((nI_ltI (by omega) (by omega)).mpr z))
          rw [if_pos ⟨by rw [y3, hy], by unfold hdT; rw [t9]; exact this⟩] at hh
          refine fst1_ok X (dk rfl) rfl ?_
          exact reti_ok X hr hlk rfl (dk rfl) ⟨by rw [← hh]; rfl, rfl⟩ (Nat.le_refl _) (Nat.le_refl _)
  iterate 2 refine fst1_ok X (dk rfl) rfl ?_
  exact loop ts.length 0 _ rfl (Nat.zero_add _) rfl
set_option maxHeartbeats 8000000 in
theorem c_number (h : AH) (M : CS h o8 T O Q ts of' pt can) {u pl j : Nat} {xs : List Nat} (hu : h u = some (IA xs)) (hx : TW xs ∧ xs.length ≤ 16) (hp : pl < xs.length) (hj : ts[j]? = some (sub' xs pl)) (hm : ∀ i, i < j → ts[i]? ≠ some (sub' xs pl)) : CT la D cA B0 pa yX8_number cX8_number 4 (some .int) (rmD 3 0 0) [.ref o8, .ref u, vI pl] h (fun v h' => v = some (vI j) ∧ h' = h) := by
  refine CT_of (by decide +kernel) (Nat.le_of_ble_eq_true rfl) ?_
  intro p e s m args below meth c X E hr hlk hnm
  have dk : ∀ {pc : Nat} {q : Instr × Nat}, lkd DX8_number pc = some q → decode cX8_number pc = .ok q := lkd_ok DX8_number_ok
  have h32 : ts.length ≤ 32 := M.2.2.2.2.2.2.2.1
  have hjl := (List.getElem?_eq_some_iff.mp hj).1
  obtain ⟨g1, g2, g3, g4, g5⟩ := sub_ok hx.1 hx.2 hp
  have loop : ∀ (d k : Nat) (l : List (Nat × Value)), lsel l [3, 2, 1, 0] = [(3, vI k), (2, vI pl), (1, .ref u), (0, .ref o8)] → k + d = j → WR p la e (rmD 3 0 0) s m args below meth c D cA B0 4 (fun v h' => v = some (vI j) ∧ h' = h) 2 l [] h 0 0 := by
    intro d
    induction d with
    | zero =>
      intro k l hl hk
      have hkj : k = j := by omega
      subst hkj
      obtain ⟨vs, a, r, x, t1, t2, t3, t4, t5, t6, t7, t8, t9, t10⟩ := M.term (k := k) hjl
      refine WS.sel [3, 2, 1, 0] hl ?_
      repeat refine fst1_ok X (dk rfl) rfl ?_
      refine getf_ok X flX8_11 (dk rfl) M.1 rfl ?_
      refine fst1_ok X (dk rfl) rfl ?_
      refine ld5_ok X (dk rfl) t1 t2 (by omega) ?_
      refine fst1_ok X (dk rfl) rfl ?_
      refine callSN_ok (av := [.ref u, vI pl, .ref a, vI 0]) (r := []) X E (c_isAt h (f := pl) (g := 0) hu t4 (by omega) (by omega) hx.1.lt t5.lt g1 (by rw [List.drop_zero]; exact t5.1)) lkX10_isAt mnX8_58 lsX10_isAt ⟨Nat.le_of_ble_eq_true rfl, Nat.le_of_ble_eq_true rfl⟩ ⟨Nat.le_of_ble_eq_true rfl, Nat.le_of_ble_eq_true rfl⟩ (Nat.le_of_ble_eq_true rfl) (dk rfl) ?_
      rintro v h2 ⟨rfl, rfl⟩
      cases t3.symm.trans hj
      rw [if_pos (by rw [List.drop_zero, List.take_length]; rfl)]
      refine br_ok X (dk rfl) rfl (show ((14 : Nat) : Int) + 9 = ((23 : Nat) : Int) from rfl) (fun _ => ?_) (fun c1 => absurd (by decide) c1)
      refine fst1_ok X (dk rfl) rfl ?_
      exact reti_ok X hr hlk rfl (dk rfl) ⟨rfl, rfl⟩ (Nat.le_refl _) (Nat.le_refl _)
    | succ d ih =>
      intro k l hl hk
      have f2 : Value.int (nI k + Int32.ofInt 1) = vI (k + 1) := congrArg Value.int (by rw [nI_1', nI_add])
      obtain ⟨vs, a, r, x, t1, t2, t3, t4, t5, t6, t7, t8, t9, t10⟩ := M.term (k := k) (by omega)
      refine WS.sel [3, 2, 1, 0] hl ?_
      repeat refine fst1_ok X (dk rfl) rfl ?_
      refine getf_ok X flX8_11 (dk rfl) M.1 rfl ?_
      refine fst1_ok X (dk rfl) rfl ?_
      refine ld5_ok X (dk rfl) t1 t2 (by omega) ?_
      refine fst1_ok X (dk rfl) rfl ?_
      refine callSN_ok (av := [.ref u, vI pl, .ref a, vI 0]) (r := []) X E (c_isAt h (f := pl) (g := 0) hu t4 (by omega) (by omega) hx.1.lt t5.lt g1 (by rw [List.drop_zero]; exact t5.1)) lkX10_isAt mnX8_58 lsX10_isAt ⟨Nat.le_of_ble_eq_true rfl, Nat.le_of_ble_eq_true rfl⟩ ⟨Nat.le_of_ble_eq_true rfl, Nat.le_of_ble_eq_true rfl⟩ (Nat.le_of_ble_eq_true rfl) (dk rfl) ?_
      rintro v h2 ⟨rfl, rfl⟩
      rw [if_neg (fun z => by
        rw [List.drop_zero, List.take_length] at z
        exact hm k (by omega) (t3.trans (congrArg some z.symm)))]
      refine br_ok X (dk rfl) rfl (show ((14 : Nat) : Int) + 9 = ((23 : Nat) : Int) from rfl) (fun c1 => absurd rfl c1) (fun _ => ?_)
      repeat refine fst1_ok X (dk rfl) rfl ?_
      refine br_ok X (dk rfl) rfl (show ((20 : Nat) : Int) + (-18) = ((2 : Nat) : Int) from rfl) (fun _ => ?_) (fun q => absurd trivial q)
      refine WS.sel (l' := [(3, vI (k + 1)), (2, vI pl), (1, .ref u), (0, .ref o8)]) [3, 2, 1, 0] (by rw [← f2]; rfl) ?_
      exact ih (k + 1) _ rfl (by omega)
  iterate 2 refine fst1_ok X (dk rfl) rfl ?_
  exact loop j 0 _ rfl (Nat.zero_add _)
end M72
