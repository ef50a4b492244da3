/-! commonOf: the walk -/
theorem filR_upd {as : List Nat} {N j q : Nat} (h : j < as.length) : (filR as N).set j (.ref q) = filR (as.set j q) N := by
  unfold filR
  rw [List.set_append_left _ _ (by simpa using h), List.map_set, List.length_set]
theorem filR_get {as : List Nat} {N j q : Nat} (h : as[j]? = some q) : (filR as N)[j]? = some (.ref q) := by
  have hl : j < as.length := (List.getElem?_eq_some_iff.mp h).1
  unfold filR
  rw [List.getElem?_append_left (by simpa using hl), List.getElem?_map, h]
  rfl
/-- the array of the pairs found so far -/
def PR (h : AH) (P Z : Nat) (ps : List (List Nat × List Nat)) : Prop := ∃ as : List Nat, as.length = 2 * ps.length ∧ h P = some (105, filR as 32) ∧ ∀ (i : Nat) (q : List Nat × List Nat), ps[i]? = some q → ∃ a b, as[2 * i]? = some a ∧ as[2 * i + 1]? = some b ∧ h a = some (IA q.1) ∧ h b = some (IA q.2) ∧ a ≠ Z ∧ b ≠ Z
theorem IA_ne {h : AH} {a P : Nat} {xs : List Nat} {vs : List Value} (ha : h a = some (IA xs)) (hP : h P = some (105, vs)) : a ≠ P := fun z => by rw [z, hP] at ha; simp [IA] at ha
theorem PR.ext {h h' : AH} {P Z : Nat} {ps : List (List Nat × List Nat)} (H : PR h P Z ps) (E : Ext h h') : PR h' P Z ps := by
  obtain ⟨as, h1, h2, h3⟩ := H
  refine ⟨as, h1, E _ _ h2, fun i q hq => ?_⟩
  obtain ⟨a, b, e1, e2, e3, e4, e5⟩ := h3 i q hq
  exact ⟨a, b, e1, e2, E _ _ e3, E _ _ e4, e5⟩
/-- both places of a pair are set -/
theorem PR.put {h : AH} {P Z a b j : Nat} {ps : List (List Nat × List Nat)} {q : List Nat × List Nat} (hZ : a ≠ Z ∧ b ≠ Z) (H : PR h P Z ps) (ha : h a = some (IA q.1)) (hb : h b = some (IA q.2)) (hj : j ≤ ps.length) (hl : j < 16) (h16' : ps.length ≤ 16) (hq : j < ps.length → ps[j]? = some q) :
    ∃ vs, h P = some (105, vs) ∧ vs.length = 32 ∧ PR (hup h P (105, (vs.set (2 * j) (.ref a)).set (2 * j + 1) (.ref b))) P Z (if j < ps.length then ps else ps ++ [q]) := by
  obtain ⟨as, h1, h2, h3⟩ := H
  have h16 : as.length ≤ 32 := by omega
  · refine ⟨_, h2, filR_len h16, ?_⟩
    by_cases hjl : j < ps.length
    · rw [if_pos hjl, filR_upd (by omega), filR_upd (by rw [List.length_set]; omega)]
      refine ⟨_, by simp [h1], hup_self _ _ _, fun i q' hq' => ?_⟩
      obtain ⟨a', b', e1, e2, e3, e4, e5⟩ := h3 i q' hq'
      by_cases hij : i = j
      · subst hij
        cases (hq hjl).symm.trans hq'
        refine ⟨a, b, ?_, ?_, ?_, ?_, hZ⟩
        · rw [List.getElem?_set_ne (by omega), List.getElem?_set_self (by omega)]
        · rw [List.getElem?_set_self (by rw [List.length_set]; omega)]
        · rw [hup_ne _ _ (IA_ne ha h2)]; exact ha
        · rw [hup_ne _ _ (IA_ne hb h2)]; exact hb
      · refine ⟨a', b', ?_, ?_, ?_, ?_, e5⟩
        · rw [List.getElem?_set_ne (by omega), List.getElem?_set_ne (by omega)]; exact e1
        · rw [List.getElem?_set_ne (by omega), List.getElem?_set_ne (by omega)]; exact e2
        · rw [hup_ne _ _ (IA_ne e3 h2)]; exact e3
        · rw [hup_ne _ _ (IA_ne e4 h2)]; exact e4
    · have hj2 : j = ps.length := by omega
      subst hj2
      have e1 : (filR as 32).set (2 * ps.length) (.ref a) = filR (as ++ [a]) 32 := by rw [← h1]; exact filR_set (by omega)
      have e2 : (filR (as ++ [a]) 32).set (2 * ps.length + 1) (.ref b) = filR (as ++ [a] ++ [b]) 32 := by
        have := filR_set (as := as ++ [a]) (N := 32) (q := b) (by simp; omega)
        rw [← this]
        congr 1
        simp [h1]
      rw [if_neg hjl, e1, e2]
      refine ⟨_, by simp [h1]; omega, hup_self _ _ _, fun i q' hq' => ?_⟩
      rcases Nat.lt_or_ge i ps.length with hi | hi
      · rw [List.getElem?_append_left hi] at hq'
        obtain ⟨a', b', e1, e2, e3, e4, e5⟩ := h3 i q' hq'
        refine ⟨a', b', ?_, ?_, ?_, ?_, e5⟩
        · rw [List.append_assoc, List.getElem?_append_left (by omega)]; exact e1
        · rw [List.append_assoc, List.getElem?_append_left (by omega)]; exact e2
        · rw [hup_ne _ _ (IA_ne e3 h2)]; exact e3
        · rw [hup_ne _ _ (IA_ne e4 h2)]; exact e4
      · rw [List.getElem?_append_right hi] at hq'
        have hz : i - ps.length < 1 := (List.getElem?_eq_some_iff.mp hq').1
        have hi2 : i = ps.length := by omega
        subst hi2
        rw [Nat.sub_self] at hq'
        cases hq'
        refine ⟨a, b, ?_, ?_, ?_, ?_, hZ⟩
        · rw [List.append_assoc, List.getElem?_append_right (by omega), h1, Nat.sub_self]; rfl
        · rw [List.append_assoc, List.getElem?_append_right (by omega), h1, show 2 * ps.length + 1 - 2 * ps.length = 1 by omega]; rfl
        · rw [hup_ne _ _ (IA_ne ha h2)]; exact ha
        · rw [hup_ne _ _ (IA_ne hb h2)]; exact hb
theorem nI_mul (a b : Nat) : nI a * nI b = nI (a * b) := by
  apply Int32.toBitVec_inj.mp
  show BitVec.ofNat 32 a * BitVec.ofNat 32 b = BitVec.ofNat 32 (a * b)
  apply BitVec.eq_of_toNat_eq
  simp [Nat.mul_mod]
theorem ld5_ok {p : Program} {la : Launch} {e : Env} {R : Room} {s : State} {m : MethodId} {args : Array Value} {below : List Frame} {meth : Method} {c : Code} {Q : State → Prop} {D : va_G} {cA : Nat → ClassId} {B0 nL : Nat} {cc : ByteArray} {own : String} {pc k n : Nat} {l : List (Nat × Value)} {r : List Value} {h : AH}
    (X : CX p s m args c D cA B0 nL cc own) {a j q : Nat} {vs : List Value} (hd : decode cc pc = .ok (.aaload, 1)) (ha : h a = some (105, vs)) (hq : vs[j]? = some (.ref q)) (hj : j < 2 ^ 31)
    (kk : WS p la e R s m args below meth c Q D cA B0 nL (pc + 1) l (.ref q :: r) h k n) : WS p la e R s m args below meth c Q D cA B0 nL pc l (.int (nI j) :: .ref a :: r) h k n :=
  ald_ok X (Or.inr (Or.inr ⟨rfl, by decide⟩)) hd ha (inA_nI hj hq) kk
/-- null, if there are more than eight names; else the row -/
def comP (B0 : Nat) (h : AH) (F : List (List Nat × List Nat) × List Nat) (v : Option Value) (h' : AH) : Prop := (8 < F.1.length ∧ v = some .null ∧ Ext h h') ∨ (F.1.length ≤ 8 ∧ newE B0 h F.2 v h')
section M15
variable {la : Launch} {D : va_G} {cA : Nat → ClassId} {B0 pa : Nat}
set_option maxHeartbeats 32000000 in
theorem c_commonOf (h : AH) {o t : Nat} {one other : List Nat} (ho : h o = some (IA one)) (ht : h t = some (IA other)) (wo : TW one) (wt : TW other) (l1 : one.length ≤ 16) (l2 : other.length ≤ 16) : CT la D cA B0 pa yX10_commonOf cX10_commonOf 11 (some (.array .int)) (rmD 3 35 96) [.ref o, .ref t] h (comP B0 h (comL one other)) := by
  refine CT_of (by decide +kernel) (Nat.le_of_ble_eq_true rfl) ?_
  intro p e s m args below meth c X E hr hlk hnm
  have dk : ∀ {pc : Nat} {q : Instr × Nat}, lkd DX10_commonOf pc = some q → decode cX10_commonOf pc = .ok q := lkd_ok DX10_commonOf_ok
  have lo : (one.map vI).length = one.length := List.length_map _
  repeat refine fst1_ok X (dk rfl) rfl ?_
  refine newR_ok (N := 32) (kd := 105) X E (by decide) cl10_9 (by decide) (dk rfl) (by decide) (by decide) (fun P hP hBP => ?_)
  repeat refine fst1_ok X (dk rfl) rfl ?_
  refine newI_ok (N := 16) X (by decide) (dk rfl) (by decide) (by decide) (fun q hq hB => ?_)
  have hPq : P ≠ q := fun z => by rw [z, hup_self] at hq; cases hq
  have hq0 : h q = none := by rw [hup_ne _ _ (Ne.symm hPq)] at hq; exact hq
  have done' : ∀ (b : Nat) (ps : List (List Nat × List Nat)) (M : List Nat) (nd : Nat), CI one other one.length b ps M nd → (ps, M) = comL one other → ∀ (hh : AH) (l : List (Nat × Value)), lsel l [7, 6, 5, 4, 3, 2, 0, 1] = [(7, vI b), (6, vI one.length), (5, vI M.length), (4, vI ps.length), (3, .ref q), (2, .ref P), (0, .ref o), (1, .ref t)] → Ext h hh → hh q = some (100, fillO M 16) →
      WR p la e (rmD 3 35 96) s m args below meth c D cA B0 11 (comP B0 h (comL one other)) 23 l [] hh (2 + 2 * M.length) (48 + one.length + b) := by
    intro b ps M nd hci hF hh l hl hE hq1
    obtain ⟨h1, h2, h3, h4, h5, h6, h7, h8⟩ := hci
    refine WS.sel [7, 6, 5, 4, 3, 2, 0, 1] hl ?_
    repeat refine fst1_ok X (dk rfl) rfl ?_
    refine alen_ok X (by decide) (dk rfl) (hE _ _ ho) ?_
    rw [lo]
    refine br_ok X (dk rfl) rfl (show ((27 : Nat) : Int) + 162 = ((189 : Nat) : Int) from rfl) (fun c1 => ?_) (fun c1 => absurd (Int32.le_refl _) c1)
    repeat refine fst1_ok X (dk rfl) rfl ?_
    refine br_ok X (dk rfl) rfl (show ((193 : Nat) : Int) + 7 = ((200 : Nat) : Int) from rfl) (fun c2 => ?_) (fun c2 => ?_)
    · have h8' : ps.length ≤ 8 := nI_ge' (b := 8) (by omega) (by omega) c2
      repeat refine fst1_ok X (dk rfl) rfl ?_
      rw [nI_0']
      -- piece(made, 0, size): the array holds more than M
      have hq2 : hh q = some (IA (M ++ List.replicate (16 - M.length) 0)) := by
        rw [hq1]
        simp [fillO, IA, vI, nI_0]
      refine callS_ok (rm := rmD 0 1 (M.length - 0)) (av := [.ref q, vI 0, vI M.length]) (r := []) X E (c_piece hh (f := 0) (t := M.length) (ys := M) hq2 (Nat.zero_le _) (by simp) (by simp; omega) (by simp)) lkX10_piece mlX10_40 lsX10_piece ⟨Nat.le_of_ble_eq_true rfl, Nat.le_of_ble_eq_true rfl⟩ ⟨by show 2 + 2 * M.length + 1 ≤ 35; omega, by show 48 + one.length + b + (M.length - 0) ≤ 96; omega⟩ (Nat.le_of_ble_eq_true rfl) (dk rfl) ?_
      rintro v h2 ⟨u, rfl, hu, hBu, rfl⟩
      refine reta_ok X hr hlk (Or.inr ⟨_, rfl⟩) (Or.inr ⟨_, rfl⟩) (dk rfl) ?_ (by show 2 + 2 * M.length + 1 ≤ 35; omega) (by show 48 + one.length + b + (M.length - 0) ≤ 96; omega)
      rw [← hF]
      refine Or.inr ⟨h8', u, rfl, ?_, hBu, hE.trans (Ext.new hu _), hup_self _ _ _⟩
      cases hz : h u with
      | none => rfl
      | some cz => rw [hE _ _ hz] at hu; cases hu
    · have h8' : 8 < ps.length := nI_lt' (b := 8) (by omega) (by omega) c2
      repeat refine fst1_ok X (dk rfl) rfl ?_
      refine br_ok X (dk rfl) rfl (show ((197 : Nat) : Int) + 10 = ((207 : Nat) : Int) from rfl) (fun _ => ?_) (fun q => absurd trivial q)
      refine reta_ok X hr hlk (Or.inr ⟨_, rfl⟩) (Or.inl rfl) (dk rfl) ?_ (by show 2 + 2 * M.length ≤ 35; omega) (by show 48 + one.length + b ≤ 96; omega)
      rw [← hF]
      exact Or.inl ⟨h8', rfl, hE⟩
  have loop : ∀ (n a b : Nat) (ps : List (List Nat × List Nat)) (M : List Nat) (nd : Nat), CI one other a b ps M nd → one.length ≤ n + a → comF one other n a b ps M = comL one other → ∀ (hh : AH) (l : List (Nat × Value)), lsel l [7, 6, 5, 4, 3, 2, 0, 1] = [(7, vI b), (6, vI a), (5, vI M.length), (4, vI ps.length), (3, .ref q), (2, .ref P), (0, .ref o), (1, .ref t)] → Ext h hh → PR hh P q ps → hh q = some (100, fillO M 16) →
      WR p la e (rmD 3 35 96) s m args below meth c D cA B0 11 (comP B0 h (comL one other)) 23 l [] hh (2 + 2 * M.length) (48 + a + b) := by
    intro n
    induction n with
    | zero =>
      intro a b ps M nd hci hn hF hh l hl hE hPR hq1
      have hal : a = one.length := by have := hci.2.2.1; omega
      subst hal
      exact done' b ps M nd hci hF hh l hl hE hq1
    | succ n ih =>
      intro a b ps M nd hci hn hF hh l hl hE hPR hq1
      rcases Nat.lt_or_ge a one.length with ha | ha
      · obtain ⟨n1, n2, n3, n4, n5, n6, n7, n8, n9, n10, n11, nd', hci'⟩ := CI_name hci wo wt l1 l2 ha
        have hci0 := hci
        obtain ⟨-, -, -, -, h5, h6, h7, -⟩ := hci0
        obtain ⟨x, hx1⟩ : ∃ x, one[a]? = some x := ⟨one[a], by simp [ha]⟩
        obtain ⟨y, hy1⟩ : ∃ y, other[b]? = some y := ⟨other[b], by simp [n1]⟩
        have hx18 := (wo.2 x (List.mem_of_getElem? hx1)).lt
        have hy18 := (wt.2 y (List.mem_of_getElem? hy1)).lt
        unfold comF at hF
        rw [hx1, hy1] at hF
        dsimp only at hF
        refine WS.sel [7, 6, 5, 4, 3, 2, 0, 1] hl ?_
        repeat refine fst1_ok X (dk rfl) rfl ?_
        refine alen_ok X (by decide) (dk rfl) (hE _ _ ho) ?_
        rw [lo]
        refine br_ok X (dk rfl) rfl (show ((27 : Nat) : Int) + 162 = ((189 : Nat) : Int) from rfl) (fun c1 => absurd c1 (nI_ge (by omega) (by omega))) (fun c1 => ?_)
        repeat refine fst1_ok X (dk rfl) rfl ?_
        refine ald_ok X (Or.inl ⟨rfl, rfl⟩) (dk rfl) (hE _ _ ho) (inA_nI (by omega) (IA_get hx1)) ?_
        repeat refine fst1_ok X (dk rfl) rfl ?_
        refine ald_ok X (Or.inl ⟨rfl, rfl⟩) (dk rfl) (hE _ _ ht) (inA_nI (by omega) (IA_get hy1)) ?_
        -- a name: from 70 on
        have named : ¬ (x = y ∧ 10 ≤ x) → ∀ (l : List (Nat × Value)), lsel l [7, 6, 5, 4, 3, 2, 0, 1] = [(7, vI b), (6, vI a), (5, vI M.length), (4, vI ps.length), (3, .ref q), (2, .ref P), (0, .ref o), (1, .ref t)] → WR p la e (rmD 3 35 96) s m args below meth c D cA B0 11 (comP B0 h (comL one other)) 70 l [] hh (2 + 2 * M.length) (48 + a + b) := by
          intro hne l hl
          rw [if_neg hne] at hF
          refine WS.sel [7, 6, 5, 4, 3, 2, 0, 1] hl ?_
          repeat refine fst1_ok X (dk rfl) rfl ?_
          refine callS_ok (av := [.ref o, vI a]) (r := []) X E (c_at hh (hE _ _ ho) wo.lt (by omega) n2) lkX10_at mlX10_74 lsX10_at ⟨Nat.le_of_ble_eq_true rfl, Nat.le_of_ble_eq_true rfl⟩ ⟨by show 2 + 2 * M.length + 1 ≤ 35; omega, by show 48 + a + b + tl one a ≤ 96; omega⟩ (Nat.le_of_ble_eq_true rfl) (dk rfl) ?_
          rintro v h1 ⟨u1, rfl, hu1, hBu1, rfl⟩
          have hE1 := hE.trans (Ext.new hu1 (IA (sub' one a)))
          repeat refine fst1_ok X (dk rfl) rfl ?_
          refine callS_ok (av := [.ref t, vI b]) (r := []) X E (c_at _ (hE1 _ _ ht) wt.lt (by omega) n3) lkX10_at mlX10_74 lsX10_at ⟨Nat.le_of_ble_eq_true rfl, Nat.le_of_ble_eq_true rfl⟩ ⟨by show 2 + 2 * M.length + 1 + 1 ≤ 35; omega, by show 48 + a + b + tl one a + tl other b ≤ 96; omega⟩ (Nat.le_of_ble_eq_true rfl) (dk rfl) ?_
          rintro v h2 ⟨u2, rfl, hu2, hBu2, rfl⟩
          have hX1 := Ext.new hu1 (IA (sub' one a))
          have hX2 := Ext.new hu2 (IA (sub' other b))
          have hE2 : Ext h (hup (hup hh u1 (IA (sub' one a))) u2 (IA (sub' other b))) := hE1.trans hX2
          have hu2' : hup hh u1 (IA (sub' one a)) u2 = none := hu2
          have hp2 : hup (hup hh u1 (IA (sub' one a))) u2 (IA (sub' other b)) u2 = some (IA (sub' other b)) := hup_self _ _ _
          have hp1 : hup (hup hh u1 (IA (sub' one a))) u2 (IA (sub' other b)) u1 = some (IA (sub' one a)) := hX2 _ _ (hup_self _ _ _)
          have hPR2 : PR (hup (hup hh u1 (IA (sub' one a))) u2 (IA (sub' other b))) P q ps := (hPR.ext hX1).ext hX2
          have hq2 : hup (hup hh u1 (IA (sub' one a))) u2 (IA (sub' other b)) q = some (100, fillO M 16) := hX2 _ _ (hX1 _ _ hq1)
          have hu1q : u1 ≠ q := fun z => by rw [z, hq1] at hu1; cases hu1
          have hu2q : u2 ≠ q := fun z => by rw [z, hX1 _ _ hq1] at hu2'; cases hu2'
          change WR p la e (rmD 3 35 96) s m args below meth c D cA B0 11 (comP B0 h (comL one other)) _ _ _ (hup (hup hh u1 (IA (sub' one a))) u2 (IA (sub' other b))) (2 + 2 * M.length + 1 + 1) (48 + a + b + tl one a + tl other b)
          generalize hup (hup hh u1 (IA (sub' one a))) u2 (IA (sub' other b)) = h3 at hE2 hp1 hp2 hPR2 hq2 ⊢
          have hidx := idxP_le (sub' one a, sub' other b) ps
          -- the place is found: from 132 on
          have found : ∀ (l : List (Nat × Value)), lsel l [10, 9, 8, 7, 6, 5, 4, 3, 2, 0, 1] = [(10, vI (idxP (sub' one a, sub' other b) ps)), (9, .ref u2), (8, .ref u1), (7, vI b), (6, vI a), (5, vI M.length), (4, vI ps.length), (3, .ref q), (2, .ref P), (0, .ref o), (1, .ref t)] → WR p la e (rmD 3 35 96) s m args below meth c D cA B0 11 (comP B0 h (comL one other)) 132 l [] h3 (2 + 2 * M.length + 1 + 1) (48 + a + b + tl one a + tl other b) := by
            intro l hl
            generalize hj : idxP (sub' one a, sub' other b) ps = j at hl hidx hF hci'
            obtain ⟨vs, hv1, hv2, hv3⟩ := PR.put (j := j) (q := (sub' one a, sub' other b)) ⟨hu1q, hu2q⟩ hPR2 hp1 hp2 hidx (by omega) (by omega) (fun z => by rw [← hj] at z ⊢; exact idxP_eq _ _ z)
            refine WS.sel [10, 9, 8, 7, 6, 5, 4, 3, 2, 0, 1] hl ?_
            repeat refine fst1_ok X (dk rfl) rfl ?_
            rw [nI_2, nI_mul]
            refine str_ok X (dk rfl) hv1 hp1 (by omega) (by omega) ?_
            repeat refine fst1_ok X (dk rfl) rfl ?_
            rw [nI_2, nI_mul, nI_1', nI_add]
            have hu2P := IA_ne hp2 hv1
            refine str_ok X (dk rfl) (hup_self _ _ _) (by rw [hup_ne _ _ hu2P]; exact hp2) (by rw [List.length_set]; omega) (by rw [List.length_set]; omega) ?_
            rw [hup_hup]
            repeat refine fst1_ok X (dk rfl) rfl ?_
            rw [nI_1', nI_add]
            refine mmax_ok X (by omega) (by omega) mlX10_48 (dk rfl) (by decide) (Nat.le_of_ble_eq_true rfl) (by show 2 + 2 * M.length + 1 + 1 ≤ 35; omega) (by show 48 + a + b + tl one a + tl other b ≤ 96; omega) ?_
            repeat refine fst1_ok X (dk rfl) rfl ?_
            have hPq2 : q ≠ P := Ne.symm hPq
            refine sti_ok X (dk rfl) (by rw [hup_ne _ _ hPq2]; exact hq2) (by rw [fillO_len (by omega)]; omega) (by rw [fillO_len (by omega)]; omega) ?_
            have hE5 : Ext h (hup (hup h3 P (105, (vs.set (2 * j) (.ref u1)).set (2 * j + 1) (.ref u2))) q (100, (fillO M 16).set M.length (.int (nI j)))) := (hE2.set hP _).set hq0 _
            repeat refine fst1_ok X (dk rfl) rfl ?_
            refine callS_ok (av := [.ref o, vI a]) (r := []) X E (c_end _ (hE5 _ _ ho) wo.lt (by omega) n2) lkX10_end mlX10_36 lsX10_end ⟨Nat.le_of_ble_eq_true rfl, Nat.le_of_ble_eq_true rfl⟩ ⟨by show 2 + 2 * M.length + 1 + 1 + 0 ≤ 35; omega, by show 48 + a + b + tl one a + tl other b + 0 ≤ 96; omega⟩ (Nat.le_of_ble_eq_true rfl) (dk rfl) ?_
            rintro v h6 ⟨rfl, hh6⟩
            subst hh6
            repeat refine fst1_ok X (dk rfl) rfl ?_
            refine callS_ok (av := [.ref t, vI b]) (r := []) X E (c_end _ (hE5 _ _ ht) wt.lt (by omega) n3) lkX10_end mlX10_36 lsX10_end ⟨Nat.le_of_ble_eq_true rfl, Nat.le_of_ble_eq_true rfl⟩ ⟨by show 2 + 2 * M.length + 1 + 1 + 0 + 0 ≤ 35; omega, by show 48 + a + b + tl one a + tl other b + 0 + 0 ≤ 96; omega⟩ (Nat.le_of_ble_eq_true rfl) (dk rfl) ?_
            rintro v h7 ⟨rfl, hh7⟩
            subst hh7
            repeat refine fst1_ok X (dk rfl) rfl ?_
            refine br_ok X (dk rfl) rfl (show ((186 : Nat) : Int) + (-163) = ((23 : Nat) : Int) from rfl) (fun _ => ?_) (fun q => absurd trivial q)
            have g1 : max ps.length (j + 1) = (if j < ps.length then ps else ps ++ [(sub' one a, sub' other b)]).length := by
              split
              · omega
              · simp; omega
            have g2 : Value.int (nI M.length + Int32.ofInt 1) = vI (M ++ [j]).length := congrArg Value.int (by rw [nI_1', nI_add, List.length_append, List.length_singleton])
            refine WS.sel (l' := [(7, vI (b + tl other b)), (6, vI (a + tl one a)), (5, vI (M ++ [j]).length), (4, vI (if j < ps.length then ps else ps ++ [(sub' one a, sub' other b)]).length), (3, .ref q), (2, .ref P), (0, .ref o), (1, .ref t)]) [7, 6, 5, 4, 3, 2, 0, 1] (by rw [← g1, ← g2]; rfl) ?_
            refine WS.widen (k' := 2 + 2 * (M ++ [j]).length) (n' := 48 + (a + tl one a) + (b + tl other b)) (by show 2 + 2 * M.length + 1 + 1 + 0 + 0 ≤ _; simp; omega) (by show 48 + a + b + tl one a + tl other b + 0 + 0 ≤ _; omega) ?_
            refine ih (a + tl one a) (b + tl other b) _ (M ++ [j]) nd' hci' (by omega) hF _ _ rfl hE5 ?_ ?_
            · obtain ⟨as, w1, w2, w3⟩ := hv3
              refine ⟨as, w1, by rw [hup_ne _ _ hPq]; exact w2, fun i z hz => ?_⟩
              obtain ⟨x1, x2, y1, y2, y3, y4, y5⟩ := w3 i z hz
              exact ⟨x1, x2, y1, y2, by rw [hup_ne _ _ y5.1]; exact y3, by rw [hup_ne _ _ y5.2]; exact y4, y5⟩
            · rw [hup_self, show Value.int (nI j) = vI j from rfl, fillO_set (by omega)]
          -- the search: at 89
          have search : ∀ (d nm : Nat), d = idxP (sub' one a, sub' other b) ps - nm → nm ≤ idxP (sub' one a, sub' other b) ps → ∀ (l : List (Nat × Value)), lsel l [10, 9, 8, 7, 6, 5, 4, 3, 2, 0, 1] = [(10, vI nm), (9, .ref u2), (8, .ref u1), (7, vI b), (6, vI a), (5, vI M.length), (4, vI ps.length), (3, .ref q), (2, .ref P), (0, .ref o), (1, .ref t)] → WR p la e (rmD 3 35 96) s m args below meth c D cA B0 11 (comP B0 h (comL one other)) 89 l [] h3 (2 + 2 * M.length + 1 + 1) (48 + a + b + tl one a + tl other b) := by
            obtain ⟨as, v1, v2, v3⟩ := hPR2
            intro d
            induction d with
            | zero =>
              intro nm hd hnm l hl
              have hnm2 : nm = idxP (sub' one a, sub' other b) ps := by omega
              refine WS.sel [10, 9, 8, 7, 6, 5, 4, 3, 2, 0, 1] hl ?_
              repeat refine fst1_ok X (dk rfl) rfl ?_
              refine br_ok X (dk rfl) rfl (show ((93 : Nat) : Int) + 39 = ((132 : Nat) : Int) from rfl) (fun c2 => ?_) (fun c2 => ?_)
              · exact found _ (by rw [hnm2]; rfl)
              · have hlt : nm < ps.length := nI_lt' (by omega) (by omega) c2
                have hpe := idxP_eq (sub' one a, sub' other b) ps (by omega)
                rw [← hnm2] at hpe
                obtain ⟨x1, x2, y1, y2, y3, y4, -⟩ := v3 nm _ hpe
                repeat refine fst1_ok X (dk rfl) rfl ?_
                rw [nI_2, nI_mul]
                refine ld5_ok X (dk rfl) v2 (filR_get y1) (by omega) ?_
                repeat refine fst1_ok X (dk rfl) rfl ?_
                refine callS_ok (av := [.ref x1, .ref u1]) (r := []) X E (c_same h3 y3 hp1 (by dsimp only; omega) (by omega) n8.lt n8.lt) lkX10_same mlX10_54 lsX10_same ⟨Nat.le_of_ble_eq_true rfl, Nat.le_of_ble_eq_true rfl⟩ ⟨by show 2 + 2 * M.length + 1 + 1 + 0 ≤ 35; omega, by show 48 + a + b + tl one a + tl other b + 0 ≤ 96; omega⟩ (Nat.le_of_ble_eq_true rfl) (dk rfl) ?_
                rintro v h6 ⟨rfl, rfl⟩
                rw [if_pos rfl]
                refine br_ok X (dk rfl) rfl (show ((107 : Nat) : Int) + 19 = ((126 : Nat) : Int) from rfl) (fun c3 => absurd c3 (by decide)) (fun c3 => ?_)
                repeat refine fst1_ok X (dk rfl) rfl ?_
                rw [nI_2, nI_mul, nI_1', nI_add]
                refine ld5_ok X (dk rfl) v2 (filR_get y2) (by omega) ?_
                repeat refine fst1_ok X (dk rfl) rfl ?_
                refine callS_ok (av := [.ref x2, .ref u2]) (r := []) X E (c_same h6 y4 hp2 (by dsimp only; omega) (by omega) n9.lt n9.lt) lkX10_same mlX10_54 lsX10_same ⟨Nat.le_of_ble_eq_true rfl, Nat.le_of_ble_eq_true rfl⟩ ⟨by show 2 + 2 * M.length + 1 + 1 + 0 + 0 ≤ 35; omega, by show 48 + a + b + tl one a + tl other b + 0 + 0 ≤ 96; omega⟩ (Nat.le_of_ble_eq_true rfl) (dk rfl) ?_
                rintro v h7 ⟨rfl, rfl⟩
                rw [if_pos rfl]
                refine br_ok X (dk rfl) rfl (show ((123 : Nat) : Int) + 9 = ((132 : Nat) : Int) from rfl) (fun c3 => ?_) (fun c3 => absurd (by decide) c3)
                exact found _ (by rw [hnm2]; rfl)
            | succ d ihs =>
              intro nm hd hnm l hl
              obtain ⟨z, hz, hzne⟩ := idxP_lt (sub' one a, sub' other b) ps nm (by omega)
              obtain ⟨x1, x2, y1, y2, y3, y4, -⟩ := v3 nm z hz
              have hzw := h7 z (List.mem_of_getElem? hz)
              have f2 : Value.int (nI nm + Int32.ofInt 1) = vI (nm + 1) := congrArg Value.int (by rw [nI_1', nI_add])
              have again : ∀ (l : List (Nat × Value)), lsel l [10, 9, 8, 7, 6, 5, 4, 3, 2, 0, 1] = [(10, vI nm), (9, .ref u2), (8, .ref u1), (7, vI b), (6, vI a), (5, vI M.length), (4, vI ps.length), (3, .ref q), (2, .ref P), (0, .ref o), (1, .ref t)] → WR p la e (rmD 3 35 96) s m args below meth c D cA B0 11 (comP B0 h (comL one other)) 126 l [] h3 (2 + 2 * M.length + 1 + 1) (48 + a + b + tl one a + tl other b) := by
                intro l hl
                refine WS.sel [10, 9, 8, 7, 6, 5, 4, 3, 2, 0, 1] hl ?_
                repeat refine fst1_ok X (dk rfl) rfl ?_
                refine br_ok X (dk rfl) rfl (show ((129 : Nat) : Int) + (-40) = ((89 : Nat) : Int) from rfl) (fun _ => ?_) (fun q => absurd trivial q)
                refine WS.sel (l' := [(10, vI (nm + 1)), (9, .ref u2), (8, .ref u1), (7, vI b), (6, vI a), (5, vI M.length), (4, vI ps.length), (3, .ref q), (2, .ref P), (0, .ref o), (1, .ref t)]) [10, 9, 8, 7, 6, 5, 4, 3, 2, 0, 1] (by rw [← f2]; rfl) ?_
                exact ihs (nm + 1) (by omega) (by omega) _ rfl
              refine WS.sel [10, 9, 8, 7, 6, 5, 4, 3, 2, 0, 1] hl ?_
              repeat refine fst1_ok X (dk rfl) rfl ?_
              refine br_ok X (dk rfl) rfl (show ((93 : Nat) : Int) + 39 = ((132 : Nat) : Int) from rfl) (fun c2 => absurd c2 (nI_ge (by omega) (by omega))) (fun c2 => ?_)
              repeat refine fst1_ok X (dk rfl) rfl ?_
              rw [nI_2, nI_mul]
              refine ld5_ok X (dk rfl) v2 (filR_get y1) (by omega) ?_
              repeat refine fst1_ok X (dk rfl) rfl ?_
              refine callS_ok (av := [.ref x1, .ref u1]) (r := []) X E (c_same h3 y3 hp1 (by omega) (by omega) hzw.1.lt n8.lt) lkX10_same mlX10_54 lsX10_same ⟨Nat.le_of_ble_eq_true rfl, Nat.le_of_ble_eq_true rfl⟩ ⟨by show 2 + 2 * M.length + 1 + 1 + 0 ≤ 35; omega, by show 48 + a + b + tl one a + tl other b + 0 ≤ 96; omega⟩ (Nat.le_of_ble_eq_true rfl) (dk rfl) ?_
              rintro v h6 ⟨rfl, rfl⟩
              by_cases hz1 : z.1 = sub' one a
              · rw [if_pos hz1]
                refine br_ok X (dk rfl) rfl (show ((107 : Nat) : Int) + 19 = ((126 : Nat) : Int) from rfl) (fun c3 => absurd c3 (by decide)) (fun c3 => ?_)
                repeat refine fst1_ok X (dk rfl) rfl ?_
                rw [nI_2, nI_mul, nI_1', nI_add]
                refine ld5_ok X (dk rfl) v2 (filR_get y2) (by omega) ?_
                repeat refine fst1_ok X (dk rfl) rfl ?_
                refine callS_ok (av := [.ref x2, .ref u2]) (r := []) X E (c_same h6 y4 hp2 (by omega) (by omega) hzw.2.2.1.lt n9.lt) lkX10_same mlX10_54 lsX10_same ⟨Nat.le_of_ble_eq_true rfl, Nat.le_of_ble_eq_true rfl⟩ ⟨by show 2 + 2 * M.length + 1 + 1 + 0 + 0 ≤ 35; omega, by show 48 + a + b + tl one a + tl other b + 0 + 0 ≤ 96; omega⟩ (Nat.le_of_ble_eq_true rfl) (dk rfl) ?_
                rintro v h7' ⟨rfl, rfl⟩
                have hz2 : ¬ z.2 = sub' other b := fun w => hzne (Prod.ext hz1 w)
                rw [if_neg hz2]
                refine br_ok X (dk rfl) rfl (show ((123 : Nat) : Int) + 9 = ((132 : Nat) : Int) from rfl) (fun c3 => absurd rfl c3) (fun c3 => ?_)
                exact again _ rfl
              · rw [if_neg hz1]
                refine br_ok X (dk rfl) rfl (show ((107 : Nat) : Int) + 19 = ((126 : Nat) : Int) from rfl) (fun c3 => ?_) (fun c3 => absurd rfl c3)
                exact again _ rfl
          iterate 3 refine fst1_ok X (dk rfl) rfl ?_
          exact search _ 0 rfl (Nat.zero_le _) _ rfl
        refine br_ok X (dk rfl) rfl (show ((38 : Nat) : Int) + 32 = ((70 : Nat) : Int) from rfl) (fun c2 => ?_) (fun c2 => ?_)
        · exact named (fun z => c2 (by rw [z.1])) _ rfl
        · have hxy : x = y := (nI_eq (by omega) (by omega)).mp (Decidable.not_not.mp c2)
          repeat refine fst1_ok X (dk rfl) rfl ?_
          refine ald_ok X (Or.inl ⟨rfl, rfl⟩) (dk rfl) (hE _ _ ho) (inA_nI (by omega) (IA_get hx1)) ?_
          repeat refine fst1_ok X (dk rfl) rfl ?_
          refine br_ok X (dk rfl) rfl (show ((47 : Nat) : Int) + 23 = ((70 : Nat) : Int) from rfl) (fun c3 => ?_) (fun c3 => ?_)
          · rw [nI_10] at c3
            have hlt : x < 10 := (nI_ltI (by omega) (by omega)).mp c3
            exact named (fun z => by omega) _ rfl
          · rw [nI_10] at c3
            have hge : 10 ≤ x := by
              rcases Nat.lt_or_ge x 10 with z | z
              · exact absurd ((nI_ltI (by omega) (by omega)).mpr z) c3
              · exact z
            subst hxy
            rw [if_pos ⟨rfl, hge⟩] at hF
            obtain ⟨nd2, hci2⟩ := CI_head hci hx1 hy1 hge hx18
            repeat refine fst1_ok X (dk rfl) rfl ?_
            refine ald_ok X (Or.inl ⟨rfl, rfl⟩) (dk rfl) (hE _ _ ho) (inA_nI (by omega) (IA_get hx1)) ?_
            refine sti_ok X (dk rfl) hq1 (by rw [fillO_len (by omega)]; omega) (by rw [fillO_len (by omega)]; omega) ?_
            repeat refine fst1_ok X (dk rfl) rfl ?_
            refine br_ok X (dk rfl) rfl (show ((67 : Nat) : Int) + (-44) = ((23 : Nat) : Int) from rfl) (fun _ => ?_) (fun q => absurd trivial q)
            have g1 : ∀ z : Nat, Value.int (nI z + Int32.ofInt 1) = vI (z + 1) := fun z => congrArg Value.int (by rw [nI_1', nI_add])
            have g2 : (M ++ [x]).length = M.length + 1 := by simp
            refine WS.sel (l' := [(7, vI (b + 1)), (6, vI (a + 1)), (5, vI (M ++ [x]).length), (4, vI ps.length), (3, .ref q), (2, .ref P), (0, .ref o), (1, .ref t)]) [7, 6, 5, 4, 3, 2, 0, 1] (by rw [g2, ← g1, ← g1, ← g1]; rfl) ?_
            refine WS.widen (k' := 2 + 2 * (M ++ [x]).length) (n' := 48 + (a + 1) + (b + 1)) (by rw [g2]; omega) (by omega) ?_
            refine ih (a + 1) (b + 1) ps (M ++ [x]) nd2 hci2 (by omega) hF _ _ rfl (hE.set hq0 _) ?_ (by rw [hup_self, show Value.int (nI x) = vI x from rfl, fillO_set (by omega)])
            obtain ⟨as, w1, w2, w3⟩ := hPR
            refine ⟨as, w1, by rw [hup_ne _ _ hPq]; exact w2, fun i z hz => ?_⟩
            obtain ⟨x1, x2, y1, y2, y3, y4, y5⟩ := w3 i z hz
            exact ⟨x1, x2, y1, y2, by rw [hup_ne _ _ y5.1]; exact y3, by rw [hup_ne _ _ y5.2]; exact y4, y5⟩
      · have hal : a = one.length := by have := hci.2.2.1; omega
        subst hal
        unfold comF at hF
        rw [List.getElem?_eq_none (Nat.le_refl _)] at hF
        exact done' b ps M nd hci hF hh l hl hE hq1
  iterate 9 refine fst1_ok X (dk rfl) rfl ?_
  refine loop 16 0 0 [] [] 1 (CI_0 wo wt) (by omega) rfl _ _ rfl ((Ext.new hP _).trans (Ext.new hq _)) ⟨[], rfl, by rw [hup_ne _ _ hPq, hup_self, filR_0], fun i z hz => by simp at hz⟩ ?_
  rw [hup_self]
  simp [fillO]
end M15
