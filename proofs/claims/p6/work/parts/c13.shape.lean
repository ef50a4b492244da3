/-! the class, strongly: pairs that wait, shapes (printed by wip/p20/genT3.py) -/
/-- outside terms and some cells all stays -/
def FrU (B Q : Nat → Nat) (L : List Nat) (h h' : AH) : Prop := ∀ a : Nat, (∀ i, i < 52 → a ≠ B i ∧ a ≠ Q i) → a ∉ L → h' a = h a
/-- outside the pairs' cells all stays -/
def FrP (pb a1 a2 : Nat) (h h' : AH) : Prop := ∀ a : Nat, a ≠ pb → a ≠ a1 → a ≠ a2 → h' a = h a
theorem FrP.rf {pb a1 a2 : Nat} (h : AH) : FrP pb a1 a2 h h := fun _ _ _ _ => rfl
theorem FrP.trans {pb a1 a2 : Nat} {h1 h2 h3 : AH} (x : FrP pb a1 a2 h1 h2) (y : FrP pb a1 a2 h2 h3) : FrP pb a1 a2 h1 h3 := fun a k1 k2 k3 => (y a k1 k2 k3).trans (x a k1 k2 k3)
theorem FrP.set {pb a1 a2 : Nat} {h h' : AH} (x : FrP pb a1 a2 h h') {q : Nat} (hq : q = pb ∨ q = a1 ∨ q = a2) (c : AC) : FrP pb a1 a2 h (hup h' q c) := fun a k1 k2 k3 => by
  rw [hup_ne _ _ (by rcases hq with rfl | rfl | rfl <;> assumption)]
  exact x a k1 k2 k3
theorem FrU.rf {B Q : Nat → Nat} {L : List Nat} (h : AH) : FrU B Q L h h := fun _ _ _ => rfl
theorem FrU.trans {B Q : Nat → Nat} {L : List Nat} {h1 h2 h3 : AH} (x : FrU B Q L h1 h2) (y : FrU B Q L h2 h3) : FrU B Q L h1 h3 := fun a k1 k2 => (y a k1 k2).trans (x a k1 k2)
theorem FrT.u {B Q : Nat → Nat} {h h' : AH} (x : FrT B Q h h') (L : List Nat) : FrU B Q L h h' := fun a k1 _ => x a k1
theorem FrP.u {B Q : Nat → Nat} {pb a1 a2 : Nat} {h h' : AH} (x : FrP pb a1 a2 h h') {L : List Nat} (hL : pb ∈ L ∧ a1 ∈ L ∧ a2 ∈ L) : FrU B Q L h h' := fun a _ k => x a (fun z => k (z ▸ hL.1)) (fun z => k (z ▸ hL.2.1)) (fun z => k (z ▸ hL.2.2))
theorem FrU.set {B Q : Nat → Nat} {L : List Nat} {h h' : AH} (x : FrU B Q L h h') {q : Nat} (hq : q ∈ L) (c : AC) : FrU B Q L h (hup h' q c) := fun a k1 k2 => by
  rw [hup_ne _ _ (fun (z : a = q) => k2 (by rw [z]; exact hq))]
  exact x a k1 k2
/-- the pairs that wait -/
def PRS (h : AH) (pb a1 a2 : Nat) (ps : PL2) : Prop := ps.length ≤ 128 ∧ (∀ q ∈ ps, q.1 < 2 ^ 20 ∧ q.2 < 2 ^ 20) ∧ h pb = some (4, [.ref a1, .ref a2, vI ps.length]) ∧
  (∃ xs : List Int32, h a1 = some (107, xs.map Value.int) ∧ xs.length = 128 ∧ xs.take ps.length = ps.map (fun q => nI q.1)) ∧ ∃ ys : List Int32, h a2 = some (107, ys.map Value.int) ∧ ys.length = 128 ∧ ys.take ps.length = ps.map (fun q => nI q.2)
/-- pairs of any content -/
def PRW (h : AH) (pb a1 a2 : Nat) : Prop := (∃ w : Nat, w ≤ 128 ∧ h pb = some (4, [.ref a1, .ref a2, vI w])) ∧ (∃ xs : List Int32, h a1 = some (107, xs.map Value.int) ∧ xs.length = 128) ∧ ∃ ys : List Int32, h a2 = some (107, ys.map Value.int) ∧ ys.length = 128
theorem PRS.w {h : AH} {pb a1 a2 : Nat} {ps : PL2} (H : PRS h pb a1 a2 ps) : PRW h pb a1 a2 := by
  obtain ⟨h1, -, h3, ⟨xs, x1, x2, -⟩, ys, y1, y2, -⟩ := H
  exact ⟨⟨_, h1, h3⟩, ⟨xs, x1, x2⟩, ys, y1, y2⟩
theorem PRW.empty {h : AH} {pb a1 a2 : Nat} (H : PRW h pb a1 a2) : PRS (hup h pb (4, [.ref a1, .ref a2, vI 0])) pb a1 a2 [] := by
  obtain ⟨⟨w, w1, w2⟩, ⟨xs, x1, x2⟩, ys, y1, y2⟩ := H
  exact ⟨Nat.zero_le _, fun q hq => by simp at hq, hup_self _ _ _, ⟨xs, by rw [hup_ne _ _ (k_ne x1 w2 (by decide))]; exact x1, x2, rfl⟩, ys, by rw [hup_ne _ _ (k_ne y1 w2 (by decide))]; exact y1, y2, rfl⟩
/-- fewer of them -/
theorem PRS.fewer {h : AH} {pb a1 a2 : Nat} {ps qs : PL2} (H : PRS h pb a1 a2 (ps ++ qs)) : PRS (hup h pb (4, [.ref a1, .ref a2, vI ps.length])) pb a1 a2 ps := by
  obtain ⟨h1, h2, h3, ⟨xs, x1, x2, x3⟩, ys, y1, y2, y3⟩ := H
  rw [List.length_append] at h1 x3 y3
  refine ⟨by omega, fun q hq => h2 q (List.mem_append_left _ hq), hup_self _ _ _, ⟨xs, by rw [hup_ne _ _ (k_ne x1 h3 (by decide))]; exact x1, x2, ?_⟩, ys, by rw [hup_ne _ _ (k_ne y1 h3 (by decide))]; exact y1, y2, ?_⟩
  · have := congrArg (List.take ps.length) x3
    rw [List.take_take, Nat.min_eq_left (by omega), List.map_append, List.take_append_of_le_length (by rw [List.length_map]; omega), List.take_of_length_le (l := ps.map (fun q => nI q.1)) (Nat.le_of_eq (List.length_map _))] at this
    exact this
  · have := congrArg (List.take ps.length) y3
    rw [List.take_take, Nat.min_eq_left (by omega), List.map_append, List.take_append_of_le_length (by rw [List.length_map]; omega), List.take_of_length_le (l := ps.map (fun q => nI q.2)) (Nat.le_of_eq (List.length_map _))] at this
    exact this
theorem take_snoc {xs : List Int32} {n : Nat} {zs : List Int32} {v : Int32} (h : xs.take n = zs) (hn : n < xs.length) : (xs.set n v).take (n + 1) = zs ++ [v] := by
  rw [List.take_add_one, List.take_set, List.set_eq_of_length_le (by rw [List.length_take]; omega), h, List.getElem?_set_self hn]
  rfl
section PRs
variable {h h' : AH} {pb a1 a2 : Nat} {ps : PL2} {B Q : Nat → Nat} {F : Nat → TC}
theorem PRS.one (H : PRS h pb a1 a2 ps) {k : Nat} {q : Nat × Nat} (hk : ps[k]? = some q) : ∃ xs ys : List Int32, h a1 = some (107, xs.map Value.int) ∧ xs.length = 128 ∧ xs[k]? = some (nI q.1) ∧ h a2 = some (107, ys.map Value.int) ∧ ys.length = 128 ∧ ys[k]? = some (nI q.2) := by
  obtain ⟨h1, h2, h3, ⟨xs, x1, x2, x3⟩, ys, y1, y2, y3⟩ := H
  exact ⟨xs, ys, x1, x2, take_get x3 (by rw [List.getElem?_map, hk]; rfl), y1, y2, take_get y3 (by rw [List.getElem?_map, hk]; rfl)⟩
theorem PRW.frT (H : PRW h pb a1 a2) (S : TS B Q h F) (ha : ∀ i, i < 52 → a1 ≠ Q i ∧ a2 ≠ Q i) (x : FrT B Q h h') : PRW h' pb a1 a2 := by
  obtain ⟨⟨w, w1, w2⟩, ⟨xs, x1, x2⟩, ys, y1, y2⟩ := H
  refine ⟨⟨w, w1, x.keep S w2 (by decide) (by decide)⟩, ⟨xs, by rw [x a1 (fun i hi => ⟨k_ne x1 (S i hi).2.1 (by decide), (ha i hi).1⟩)]; exact x1, x2⟩, ys, by rw [x a2 (fun i hi => ⟨k_ne y1 (S i hi).2.1 (by decide), (ha i hi).2⟩)]; exact y1, y2⟩
theorem PRS.frT (H : PRS h pb a1 a2 ps) (S : TS B Q h F) (ha : ∀ i, i < 52 → a1 ≠ Q i ∧ a2 ≠ Q i) (x : FrT B Q h h') : PRS h' pb a1 a2 ps := by
  obtain ⟨h1, h2, h3, ⟨xs, x1, x2, x3⟩, ys, y1, y2, y3⟩ := H
  exact ⟨h1, h2, x.keep S h3 (by decide) (by decide), ⟨xs, by rw [x a1 (fun i hi => ⟨k_ne x1 (S i hi).2.1 (by decide), (ha i hi).1⟩)]; exact x1, x2, x3⟩, ys, by rw [x a2 (fun i hi => ⟨k_ne y1 (S i hi).2.1 (by decide), (ha i hi).2⟩)]; exact y1, y2, y3⟩
theorem TS.frP (S : TS B Q h F) (x : FrP pb a1 a2 h h') {vs : List Value} (hp : h pb = some (4, vs)) {k1 k2 : List Value} (h1 : h a1 = some (107, k1)) (h2 : h a2 = some (107, k2)) (ha : ∀ i, i < 52 → a1 ≠ Q i ∧ a2 ≠ Q i) : TS B Q h' F := fun i hi => by
  obtain ⟨s1, s2, xs, s3, s4⟩ := S i hi
  refine ⟨s1, by rw [x _ (k_ne s2 hp (by decide)) (k_ne s2 h1 (by decide)) (k_ne s2 h2 (by decide))]; exact s2, xs, ?_, s4⟩
  rw [x _ (k_ne s3 hp (by decide)) (Ne.symm (ha i hi).1) (Ne.symm (ha i hi).2)]
  exact s3
theorem TS.frPw (S : TS B Q h F) (x : FrP pb a1 a2 h h') (H : PRW h pb a1 a2) (ha : ∀ i, i < 52 → a1 ≠ Q i ∧ a2 ≠ Q i) : TS B Q h' F := by
  obtain ⟨⟨w, w1, w2⟩, ⟨xs, x1, x2⟩, ys, y1, y2⟩ := H
  exact S.frP x w2 x1 y1 ha
theorem FrP.keep (x : FrP pb a1 a2 h h') (H : PRW h pb a1 a2) {a k : Nat} {vs : List Value} (e : h a = some (k, vs)) (h4 : k ≠ 4) (h7 : k ≠ 107) : h' a = some (k, vs) := by
  obtain ⟨⟨w, w1, w2⟩, ⟨xs, x1, x2⟩, ys, y1, y2⟩ := H
  rw [x a (k_ne e w2 h4) (k_ne e x1 h7) (k_ne e y1 h7)]
  exact e
end PRs
/-- a method that changes pairs alone -/
def PP (pb a1 a2 : Nat) (ps : PL2) (h : AH) (v : Option Value) (h' : AH) : Prop := v = none ∧ PRS h' pb a1 a2 ps ∧ FrP pb a1 a2 h h'
section S13
variable {la : Launch} {D : va_G} {cA : Nat → ClassId} {B0 pa : Nat} {B Q P : Nat → Nat} {F : Nat → TC} {pb a1 a2 : Nat} {ps : PL2}
set_option maxHeartbeats 4000000 in
theorem s2_empty (h : AH) (H : PRW h pb a1 a2) : CT la D cA B0 pa yX2_empty cX2_empty 1 none (rmD 0 0 0) [.ref pb] h (PP pb a1 a2 [] h) := by
  refine CT_of (by decide +kernel) (Nat.le_of_ble_eq_true rfl) ?_
  intro p e s m args below meth c X E hr hlk hnm
  have dk : ∀ {pc : Nat} {q : Instr × Nat}, lkd DX2_empty pc = some q → decode cX2_empty pc = .ok q := lkd_ok DX2_empty_ok
  obtain ⟨wv, w1, w2⟩ := H.1
  iterate 2 refine fst1_ok X (dk rfl) rfl ?_
  refine putf_ok X flX2_18 ftX2_2 (Or.inl rfl) rfl rfl (dk rfl) w2 (Nat.le_of_ble_eq_true rfl) ?_
  rw [nI_0']
  exact retv_ok X hr hlk (dk rfl) (⟨rfl, H.empty, (FrP.rf h).set (Or.inl rfl) _⟩) (Nat.le_of_ble_eq_true rfl) (Nat.le_of_ble_eq_true rfl)
set_option maxHeartbeats 4000000 in
theorem s2_length (h : AH) (H : PRS h pb a1 a2 ps) : CT la D cA B0 pa yX2_length cX2_length 1 (some .int) (rmD 0 0 0) [.ref pb] h (RP (vI ps.length) h) := by
  refine CT_of (by decide +kernel) (Nat.le_of_ble_eq_true rfl) ?_
  intro p e s m args below meth c X E hr hlk hnm
  have dk : ∀ {pc : Nat} {q : Instr × Nat}, lkd DX2_length pc = some q → decode cX2_length pc = .ok q := lkd_ok DX2_length_ok
  refine fst1_ok X (dk rfl) rfl ?_
  refine getf_ok X flX2_18 (dk rfl) H.2.2.1 rfl ?_
  exact reti_ok X hr hlk rfl (dk rfl) (⟨rfl, rfl⟩) (Nat.le_of_ble_eq_true rfl) (Nat.le_of_ble_eq_true rfl)
set_option maxHeartbeats 4000000 in
theorem s2_oneAt (h : AH) (H : PRS h pb a1 a2 ps) {k : Nat} {q : Nat × Nat} (hk : ps[k]? = some q) : CT la D cA B0 pa yX2_oneAt cX2_oneAt 2 (some .int) (rmD 0 0 0) [.ref pb, vI k] h (RP (vI q.1) h) := by
  refine CT_of (by decide +kernel) (Nat.le_of_ble_eq_true rfl) ?_
  intro p e s m args below meth c X E hr hlk hnm
  have dk : ∀ {pc : Nat} {q : Instr × Nat}, lkd DX2_oneAt pc = some q → decode cX2_oneAt pc = .ok q := lkd_ok DX2_oneAt_ok
  obtain ⟨xs, ys, x1, x2, x3, y1, y2, y3⟩ := H.one hk
  have hkl := (List.getElem?_eq_some_iff.mp hk).1
  have h128 := H.1
  refine fst1_ok X (dk rfl) rfl ?_
  refine br_ok X (dk rfl) rfl (show ((1 : Nat) : Int) + 27 = ((28 : Nat) : Int) from rfl) (fun q => absurd q (nI_pos (by omega))) (fun _ => ?_)
  iterate 2 refine fst1_ok X (dk rfl) rfl ?_
  refine getf_ok X flX2_18 (dk rfl) H.2.2.1 rfl ?_
  refine br_ok X (dk rfl) rfl (show ((9 : Nat) : Int) + 19 = ((28 : Nat) : Int) from rfl) (fun q => absurd q (nI_ge (by omega) (by omega))) (fun _ => ?_)
  iterate 2 refine fst1_ok X (dk rfl) rfl ?_
  refine br_ok X (dk rfl) rfl (show ((16 : Nat) : Int) + 12 = ((28 : Nat) : Int) from rfl) (fun q => absurd q (by rw [show (Int16.ofInt 128).toInt32 = nI 128 by decide +kernel]; exact nI_ge (by omega) (by omega))) (fun _ => ?_)
  refine fst1_ok X (dk rfl) rfl ?_
  refine getf_ok X flX2_11 (dk rfl) H.2.2.1 rfl ?_
  refine fst1_ok X (dk rfl) rfl ?_
  refine ald7v_ok X (dk rfl) x1 (nI_pos (by omega)) (by rw [nI_clamp (by omega)]; exact x3) ?_
  refine br_ok X (dk rfl) rfl (show ((25 : Nat) : Int) + 4 = ((29 : Nat) : Int) from rfl) (fun _ => ?_) (fun q => absurd trivial q)
  exact reti_ok X hr hlk rfl (dk rfl) (⟨rfl, rfl⟩) (Nat.le_of_ble_eq_true rfl) (Nat.le_of_ble_eq_true rfl)
set_option maxHeartbeats 4000000 in
theorem s2_otherAt (h : AH) (H : PRS h pb a1 a2 ps) {k : Nat} {q : Nat × Nat} (hk : ps[k]? = some q) : CT la D cA B0 pa yX2_otherAt cX2_otherAt 2 (some .int) (rmD 0 0 0) [.ref pb, vI k] h (RP (vI q.2) h) := by
  refine CT_of (by decide +kernel) (Nat.le_of_ble_eq_true rfl) ?_
  intro p e s m args below meth c X E hr hlk hnm
  have dk : ∀ {pc : Nat} {q : Instr × Nat}, lkd DX2_otherAt pc = some q → decode cX2_otherAt pc = .ok q := lkd_ok DX2_otherAt_ok
  obtain ⟨xs, ys, x1, x2, x3, y1, y2, y3⟩ := H.one hk
  have hkl := (List.getElem?_eq_some_iff.mp hk).1
  have h128 := H.1
  refine fst1_ok X (dk rfl) rfl ?_
  refine br_ok X (dk rfl) rfl (show ((1 : Nat) : Int) + 27 = ((28 : Nat) : Int) from rfl) (fun q => absurd q (nI_pos (by omega))) (fun _ => ?_)
  iterate 2 refine fst1_ok X (dk rfl) rfl ?_
  refine getf_ok X flX2_18 (dk rfl) H.2.2.1 rfl ?_
  refine br_ok X (dk rfl) rfl (show ((9 : Nat) : Int) + 19 = ((28 : Nat) : Int) from rfl) (fun q => absurd q (nI_ge (by omega) (by omega))) (fun _ => ?_)
  iterate 2 refine fst1_ok X (dk rfl) rfl ?_
  refine br_ok X (dk rfl) rfl (show ((16 : Nat) : Int) + 12 = ((28 : Nat) : Int) from rfl) (fun q => absurd q (by rw [show (Int16.ofInt 128).toInt32 = nI 128 by decide +kernel]; exact nI_ge (by omega) (by omega))) (fun _ => ?_)
  refine fst1_ok X (dk rfl) rfl ?_
  refine getf_ok X flX2_15 (dk rfl) H.2.2.1 rfl ?_
  refine fst1_ok X (dk rfl) rfl ?_
  refine ald7v_ok X (dk rfl) y1 (nI_pos (by omega)) (by rw [nI_clamp (by omega)]; exact y3) ?_
  refine br_ok X (dk rfl) rfl (show ((25 : Nat) : Int) + 4 = ((29 : Nat) : Int) from rfl) (fun _ => ?_) (fun q => absurd trivial q)
  exact reti_ok X hr hlk rfl (dk rfl) (⟨rfl, rfl⟩) (Nat.le_of_ble_eq_true rfl) (Nat.le_of_ble_eq_true rfl)
set_option maxHeartbeats 4000000 in
theorem s2_dropNext (h : AH) {q : Nat × Nat} (H : PRS h pb a1 a2 (ps ++ [q])) : CT la D cA B0 pa yX2_dropNext cX2_dropNext 1 none (rmD 0 0 0) [.ref pb] h (PP pb a1 a2 ps h) := by
  refine CT_of (by decide +kernel) (Nat.le_of_ble_eq_true rfl) ?_
  intro p e s m args below meth c X E hr hlk hnm
  have dk : ∀ {pc : Nat} {q : Instr × Nat}, lkd DX2_dropNext pc = some q → decode cX2_dropNext pc = .ok q := lkd_ok DX2_dropNext_ok
  have h128 := H.1
  rw [List.length_append, List.length_singleton] at h128
  have el : (ps ++ [q]).length = ps.length + 1 := by rw [List.length_append, List.length_singleton]
  have h3 := H.2.2.1
  rw [el] at h3
  refine fst1_ok X (dk rfl) rfl ?_
  refine getf_ok X flX2_18 (dk rfl) h3 rfl ?_
  refine br_ok X (dk rfl) rfl (show ((4 : Nat) : Int) + 13 = ((17 : Nat) : Int) from rfl) (fun q => absurd q (nI_nle (Nat.succ_pos _) (by omega))) (fun _ => ?_)
  iterate 2 refine fst1_ok X (dk rfl) rfl ?_
  refine getf_ok X flX2_18 (dk rfl) h3 rfl ?_
  iterate 2 refine fst1_ok X (dk rfl) rfl ?_
  rw [nI_1', nI_sub (by omega), Nat.add_sub_cancel]
  refine putf_ok X flX2_18 ftX2_2 (Or.inl rfl) rfl rfl (dk rfl) h3 (Nat.le_of_ble_eq_true rfl) ?_
  exact retv_ok X hr hlk (dk rfl) (⟨rfl, H.fewer, (FrP.rf h).set (Or.inl rfl) _⟩) (Nat.le_of_ble_eq_true rfl) (Nat.le_of_ble_eq_true rfl)
set_option maxHeartbeats 8000000 in
theorem s2_add (h : AH) (H : PRS h pb a1 a2 ps) (ha : a1 ≠ a2) {ta tb : Nat} (hpq : ta < 2 ^ 20 ∧ tb < 2 ^ 20) (hl : ps.length < 128) : CT la D cA B0 pa yX2_add cX2_add 3 none (rmD 0 0 0) [.ref pb, vI ta, vI tb] h (PP pb a1 a2 (ps ++ [(ta, tb)]) h) := by
  refine CT_of (by decide +kernel) (Nat.le_of_ble_eq_true rfl) ?_
  intro p e s m args below meth c X E hr hlk hnm
  have dk : ∀ {pc : Nat} {q : Instr × Nat}, lkd DX2_add pc = some q → decode cX2_add pc = .ok q := lkd_ok DX2_add_ok
  obtain ⟨h1, h2, h3, ⟨xs, x1, x2, x3⟩, ys, y1, y2, y3⟩ := H
  refine fst1_ok X (dk rfl) rfl ?_
  refine getf_ok X flX2_18 (dk rfl) h3 rfl ?_
  refine br_ok X (dk rfl) rfl (show ((4 : Nat) : Int) + 43 = ((47 : Nat) : Int) from rfl) (fun q => absurd q (nI_pos (by omega))) (fun _ => ?_)
  refine fst1_ok X (dk rfl) rfl ?_
  refine getf_ok X flX2_18 (dk rfl) h3 rfl ?_
  refine fst1_ok X (dk rfl) rfl ?_
  refine br_ok X (dk rfl) rfl (show ((14 : Nat) : Int) + 33 = ((47 : Nat) : Int) from rfl) (fun q => absurd q (by rw [show (Int16.ofInt 128).toInt32 = nI 128 by decide +kernel]; exact nI_ge (by omega) (by omega))) (fun _ => ?_)
  refine fst1_ok X (dk rfl) rfl ?_
  refine getf_ok X flX2_11 (dk rfl) h3 rfl ?_
  refine fst1_ok X (dk rfl) rfl ?_
  refine getf_ok X flX2_18 (dk rfl) h3 rfl ?_
  refine fst1_ok X (dk rfl) rfl ?_
  refine ast7_ok X (dk rfl) x1 (nI_pos (by omega)) (by rw [nI_clamp (by omega)]; omega) ?_
  rw [nI_clamp (by omega)]
  have g3 : hup h a1 (107, (xs.set ps.length (nI ta)).map Value.int) pb = some (4, [.ref a1, .ref a2, vI ps.length]) := by rw [hup_ne _ _ (k_ne h3 x1 (by decide))]; exact h3
  have gy : hup h a1 (107, (xs.set ps.length (nI ta)).map Value.int) a2 = some (107, ys.map Value.int) := by rw [hup_ne _ _ (Ne.symm ha)]; exact y1
  refine fst1_ok X (dk rfl) rfl ?_
  refine getf_ok X flX2_15 (dk rfl) g3 rfl ?_
  refine fst1_ok X (dk rfl) rfl ?_
  refine getf_ok X flX2_18 (dk rfl) g3 rfl ?_
  refine fst1_ok X (dk rfl) rfl ?_
  refine ast7_ok X (dk rfl) gy (nI_pos (by omega)) (by rw [nI_clamp (by omega)]; omega) ?_
  rw [nI_clamp (by omega)]
  have g4 : hup (hup h a1 (107, (xs.set ps.length (nI ta)).map Value.int)) a2 (107, (ys.set ps.length (nI tb)).map Value.int) pb = some (4, [.ref a1, .ref a2, vI ps.length]) := by rw [hup_ne _ _ (k_ne h3 y1 (by decide))]; exact g3
  iterate 2 refine fst1_ok X (dk rfl) rfl ?_
  refine getf_ok X flX2_18 (dk rfl) g4 rfl ?_
  iterate 2 refine fst1_ok X (dk rfl) rfl ?_
  rw [nI_1', nI_add]
  refine putf_ok X flX2_18 ftX2_2 (Or.inl rfl) rfl rfl (dk rfl) g4 (Nat.le_of_ble_eq_true rfl) ?_
  have el : (ps ++ [(ta, tb)]).length = ps.length + 1 := by rw [List.length_append, List.length_singleton]
  refine retv_ok X hr hlk (dk rfl) (⟨rfl, ⟨by omega, fun z hz => ?_, by rw [el]; exact hup_self _ _ _, ⟨xs.set ps.length (nI ta), ?_, by rw [List.length_set]; exact x2, ?_⟩, ys.set ps.length (nI tb), ?_, by rw [List.length_set]; exact y2, ?_⟩, (((FrP.rf h).set (Or.inr (Or.inl rfl)) _).set (Or.inr (Or.inr rfl)) _).set (Or.inl rfl) _⟩) (Nat.le_of_ble_eq_true rfl) (Nat.le_of_ble_eq_true rfl)
  · rcases List.mem_append.mp hz with z1 | z1
    · exact h2 z z1
    · rw [List.mem_singleton.mp z1]
      exact hpq
  · rw [hup_ne _ _ (k_ne x1 h3 (by decide)), hup_ne _ _ ha, hup_self]
  · rw [el, take_snoc x3 (by omega), List.map_append]
    rfl
  · rw [hup_ne _ _ (k_ne y1 h3 (by decide)), hup_self]
  · rw [el, take_snoc y3 (by omega), List.map_append]
    rfl
/-- pairs of terms at pairs of places -/
def prT (one other : List Nat) (ps : PL2) : List (List Nat × List Nat) := ps.map (fun q => (sub' one q.1, sub' other q.2))
theorem like_iff {ns ms : List Nat} (hn : TW ns) {p0 p2 : Nat} (h0 : p0 < ns.length) (hm : endL 1 (ms.drop p2) = some (tl ms p2)) : ((ns.drop p0).take (tl ns p0) = (ms.drop p2).take (tl ns p0)) ↔ sub' ns p0 = sub' ms p2 := by
  obtain ⟨k1, k2, k3, k4⟩ := subTW hn h0
  have hl : (sub' ns p0).length = tl ns p0 := by
    unfold sub'
    rw [List.length_take, List.length_drop]
    omega
  have h := TW_take (t := sub' ns p0) k4 hm
  rw [List.drop_zero, List.take_length, hl] at h
  exact h
theorem idxP_step {q : List Nat × List Nat} : ∀ {ps : List (List Nat × List Nat)} {k : Nat} {x : List Nat × List Nat}, k ≤ idxP q ps → ps[k]? = some x → (x = q → idxP q ps = k) ∧ (x ≠ q → k + 1 ≤ idxP q ps)
  | [], k, x, h, e => by simp at e
  | y :: r, 0, x, h, e => by
    simp only [List.getElem?_cons_zero, Option.some.injEq] at e
    subst e
    unfold idxP
    exact ⟨fun z => if_pos z, fun z => by rw [if_neg z]; omega⟩
  | y :: r, k + 1, x, h, e => by
    unfold idxP at h ⊢
    by_cases z : y = q
    · rw [if_pos z] at h
      omega
    · rw [if_neg z] at h ⊢
      rw [List.getElem?_cons_succ] at e
      obtain ⟨i1, i2⟩ := idxP_step (q := q) (k := k) (x := x) (by omega) e
      exact ⟨fun z => by rw [i1 z], fun z => by have := i2 z; omega⟩
set_option maxHeartbeats 16000000 in
theorem s3_nameFor (h : AH) (H : PRS h pb a1 a2 ps) (S : TS B Q h F) {sh : Nat} (hs : h sh = some (5, [.ref pb])) (ha : a1 ≠ a2) {i1 : Nat} (h1i : i1 < 52) {one : List Nat} (hN : TN (F i1) one) (wo : TW one) (lo : one.length ≤ 16) {i2 : Nat} (h2i : i2 < 52) {other : List Nat} (hM : TN (F i2) other) (wt : TW other) (lt : other.length ≤ 16) (hpl : ∀ q ∈ ps, q.1 < one.length ∧ q.2 < other.length) (hlt : ps.length < 128) {left right : Nat} (hl1 : left < one.length) (hr1 : right < other.length) : CT la D cA B0 pa yX3_nameFor cX3_nameFor 6 (some .int) (rmD 2 0 0) [.ref sh, .ref (B i1), vI left, .ref (B i2), vI right] h (fun v h' => v = some (vI (idxP (sub' one left, sub' other right) (prT one other ps))) ∧ PRS h' pb a1 a2 (if (idxP (sub' one left, sub' other right) (prT one other ps)) < ps.length then ps else ps ++ [(left, right)]) ∧ FrP pb a1 a2 h h') := by
  refine CT_of (by decide +kernel) (Nat.le_of_ble_eq_true rfl) ?_
  intro p e s m args below meth c X E hr hlk hnm
  have dk : ∀ {pc : Nat} {q : Instr × Nat}, lkd DX3_nameFor pc = some q → decode cX3_nameFor pc = .ok q := lkd_ok DX3_nameFor_ok
  have h128 := H.1
  obtain ⟨m1, m2, m3, m4⟩ := subTW wo hl1
  obtain ⟨n1, n2, n3, n4⟩ := subTW wt hr1
  have lp : (prT one other ps).length = ps.length := by unfold prT; rw [List.length_map]
  have ile := idxP_le (sub' one left, sub' other right) (prT one other ps)
  rw [lp] at ile
  have loop : ∀ (d k : Nat), d = ps.length - k → k ≤ ps.length → k ≤ (idxP (sub' one left, sub' other right) (prT one other ps)) → ∀ l : List (Nat × Value), lsel l [5, 4, 3, 2, 1, 0] = [(5, vI k), (4, vI right), (3, .ref (B i2)), (2, vI left), (1, .ref (B i1)), (0, .ref sh)] → WR p la e (rmD 2 0 0) s m args below meth c D cA B0 6 (fun v h' => v = some (vI (idxP (sub' one left, sub' other right) (prT one other ps))) ∧ PRS h' pb a1 a2 (if (idxP (sub' one left, sub' other right) (prT one other ps)) < ps.length then ps else ps ++ [(left, right)]) ∧ FrP pb a1 a2 h h') 3 l [] h 0 0 := by
    intro d
    induction d with
    | zero =>
      intro k hd hk hi l hl
      have hk2 : k = ps.length := by omega
      have ei : (idxP (sub' one left, sub' other right) (prT one other ps)) = ps.length := by omega
      refine WS.sel [5, 4, 3, 2, 1, 0] hl ?_
      iterate 2 refine fst1_ok X (dk rfl) rfl ?_
      refine getf_ok X flX3_12 (dk rfl) hs rfl ?_
      refine callVR_ok (ci := 4) (T := TX2) (N := 3) (av := []) (r := [vI k]) X E (s2_length h H) lkX2_length mlX3_47 lmX2_length lpX2_length ⟨Nat.le_of_ble_eq_true rfl, Nat.le_of_ble_eq_true rfl⟩ ⟨Nat.le_of_ble_eq_true rfl, Nat.le_of_ble_eq_true rfl⟩ rfl ⟨_, H.2.2.1⟩ (Nat.le_of_ble_eq_true rfl) (dk rfl) ?_
      rintro _ rfl
      refine br_ok X (dk rfl) rfl (show ((12 : Nat) : Int) + 49 = ((61 : Nat) : Int) from rfl) (fun _ => ?_) (fun q => absurd (by rw [hk2]; exact Int32.le_refl _) q)
      refine fst1_ok X (dk rfl) rfl ?_
      refine getf_ok X flX3_12 (dk rfl) hs rfl ?_
      iterate 2 refine fst1_ok X (dk rfl) rfl ?_
      refine callV_ok (ci := 4) (T := TX2) (N := 3) (av := [vI left, vI right]) (r := []) X E (s2_add h H ha (ta := left) (tb := right) ⟨by omega, by omega⟩ hlt) lkX2_add mlX3_58 lmX2_add lpX2_add ⟨Nat.le_of_ble_eq_true rfl, Nat.le_of_ble_eq_true rfl⟩ ⟨Nat.le_of_ble_eq_true rfl, Nat.le_of_ble_eq_true rfl⟩ rfl H.2.2.1 (Nat.le_of_ble_eq_true rfl) (dk rfl) ?_
      rintro _ h1 ⟨rfl, H1, f1⟩
      refine fst1_ok X (dk rfl) rfl ?_
      refine getf_ok X flX3_12 (dk rfl) (f1.keep H.w hs (by decide) (by decide)) rfl ?_
      refine callVR_ok (ci := 4) (T := TX2) (N := 3) (av := []) (r := []) X E (s2_length h1 H1) lkX2_length mlX3_47 lmX2_length lpX2_length ⟨Nat.le_of_ble_eq_true rfl, Nat.le_of_ble_eq_true rfl⟩ ⟨Nat.le_of_ble_eq_true rfl, Nat.le_of_ble_eq_true rfl⟩ rfl ⟨_, H1.2.2.1⟩ (Nat.le_of_ble_eq_true rfl) (dk rfl) ?_
      rintro _ rfl
      iterate 2 refine fst1_ok X (dk rfl) rfl ?_
      rw [List.length_append, List.length_singleton, nI_1', nI_sub (by omega), Nat.add_sub_cancel]
      exact reti_ok X hr hlk rfl (dk rfl) (⟨by rw [ei]; rfl, by rw [ei, if_neg (Nat.lt_irrefl _)]; exact H1, f1⟩) (Nat.le_of_ble_eq_true rfl) (Nat.le_of_ble_eq_true rfl)
    | succ d ih =>
      intro k hd hk hi l hl
      obtain ⟨q, hq⟩ : ∃ q, ps[k]? = some q := ⟨_, List.getElem?_eq_getElem (by omega)⟩
      obtain ⟨b1, b2⟩ := hpl q (List.mem_of_getElem? hq)
      have hq2 : (prT one other ps)[k]? = some (sub' one q.1, sub' other q.2) := by unfold prT; rw [List.getElem?_map, hq]; rfl
      obtain ⟨s1, s2⟩ := idxP_step hi hq2
      obtain ⟨u1, u2, u3, u4⟩ := subTW wo b1
      obtain ⟨v1, v2, v3, v4⟩ := subTW wt b2
      refine WS.sel [5, 4, 3, 2, 1, 0] hl ?_
      iterate 2 refine fst1_ok X (dk rfl) rfl ?_
      refine getf_ok X flX3_12 (dk rfl) hs rfl ?_
      refine callVR_ok (ci := 4) (T := TX2) (N := 3) (av := []) (r := [vI k]) X E (s2_length h H) lkX2_length mlX3_47 lmX2_length lpX2_length ⟨Nat.le_of_ble_eq_true rfl, Nat.le_of_ble_eq_true rfl⟩ ⟨Nat.le_of_ble_eq_true rfl, Nat.le_of_ble_eq_true rfl⟩ rfl ⟨_, H.2.2.1⟩ (Nat.le_of_ble_eq_true rfl) (dk rfl) ?_
      rintro _ rfl
      refine br_ok X (dk rfl) rfl (show ((12 : Nat) : Int) + 49 = ((61 : Nat) : Int) from rfl) (fun q => absurd q (nI_ge (by omega) (by omega))) (fun _ => ?_)
      iterate 2 refine fst1_ok X (dk rfl) rfl ?_
      refine getf_ok X flX3_12 (dk rfl) hs rfl ?_
      refine fst1_ok X (dk rfl) rfl ?_
      refine callVR_ok (ci := 4) (T := TX2) (N := 3) (av := [vI k]) (r := [.ref (B i1)]) X E (s2_oneAt h H hq) lkX2_oneAt mlX3_48 lmX2_oneAt lpX2_oneAt ⟨Nat.le_of_ble_eq_true rfl, Nat.le_of_ble_eq_true rfl⟩ ⟨Nat.le_of_ble_eq_true rfl, Nat.le_of_ble_eq_true rfl⟩ rfl ⟨_, H.2.2.1⟩ (Nat.le_of_ble_eq_true rfl) (dk rfl) ?_
      rintro _ rfl
      iterate 2 refine fst1_ok X (dk rfl) rfl ?_
      refine callVR_ok (ci := 7) (T := TX5) (N := 3) (av := [vI q.1, .ref (B i1), vI left]) (r := []) X E (s5_isLikeAt h S h1i hN h1i hN (p0 := q.1) (p2 := left) (by omega) u1) lkX5_isLikeAt mlX3_51 lmX5_isLikeAt lpX5_isLikeAt ⟨Nat.le_of_ble_eq_true rfl, Nat.le_of_ble_eq_true rfl⟩ ⟨Nat.le_of_ble_eq_true rfl, Nat.le_of_ble_eq_true rfl⟩ rfl ⟨_, (S i1 h1i).2.1⟩ (Nat.le_of_ble_eq_true rfl) (dk rfl) ?_
      rintro _ rfl
      have f3 : Value.int (nI k + Int32.ofInt 1) = vI (k + 1) := congrArg Value.int (by rw [nI_1', nI_add])
      have nxt : ¬ (sub' one q.1 = sub' one left ∧ sub' other q.2 = sub' other right) → ∀ l : List (Nat × Value), lsel l [5, 4, 3, 2, 1, 0] = [(5, vI k), (4, vI right), (3, .ref (B i2)), (2, vI left), (1, .ref (B i1)), (0, .ref sh)] → WR p la e (rmD 2 0 0) s m args below meth c D cA B0 6 (fun v h' => v = some (vI (idxP (sub' one left, sub' other right) (prT one other ps))) ∧ PRS h' pb a1 a2 (if (idxP (sub' one left, sub' other right) (prT one other ps)) < ps.length then ps else ps ++ [(left, right)]) ∧ FrP pb a1 a2 h h') 55 l [] h 0 0 := by
        intro hne l hl
        refine WS.sel [5, 4, 3, 2, 1, 0] hl ?_
        refine fst1_ok X (dk rfl) rfl ?_
        refine br_ok X (dk rfl) rfl (show ((58 : Nat) : Int) + (-55) = ((3 : Nat) : Int) from rfl) (fun _ => ?_) (fun q => absurd trivial q)
        refine WS.sel (l' := [(5, vI (k + 1)), (4, vI right), (3, .ref (B i2)), (2, vI left), (1, .ref (B i1)), (0, .ref sh)]) [5, 4, 3, 2, 1, 0] (by rw [← f3]; rfl) ?_
        exact ih (k + 1) (by omega) (by omega) (s2 (fun z => hne (Prod.mk.inj z))) _ rfl
      by_cases e1 : sub' one q.1 = sub' one left
      · rw [decide_eq_true ((like_iff wo b1 m1).mpr e1)]
        refine br_ok X (dk rfl) rfl (show ((30 : Nat) : Int) + 25 = ((55 : Nat) : Int) from rfl) (fun q => absurd q bI_t) (fun _ => ?_)
        iterate 2 refine fst1_ok X (dk rfl) rfl ?_
        refine getf_ok X flX3_12 (dk rfl) hs rfl ?_
        refine fst1_ok X (dk rfl) rfl ?_
        refine callVR_ok (ci := 4) (T := TX2) (N := 3) (av := [vI k]) (r := [.ref (B i2)]) X E (s2_otherAt h H hq) lkX2_otherAt mlX3_55 lmX2_otherAt lpX2_otherAt ⟨Nat.le_of_ble_eq_true rfl, Nat.le_of_ble_eq_true rfl⟩ ⟨Nat.le_of_ble_eq_true rfl, Nat.le_of_ble_eq_true rfl⟩ rfl ⟨_, H.2.2.1⟩ (Nat.le_of_ble_eq_true rfl) (dk rfl) ?_
        rintro _ rfl
        iterate 2 refine fst1_ok X (dk rfl) rfl ?_
        refine callVR_ok (ci := 7) (T := TX5) (N := 3) (av := [vI q.2, .ref (B i2), vI right]) (r := []) X E (s5_isLikeAt h S h2i hM h2i hM (p0 := q.2) (p2 := right) (by omega) v1) lkX5_isLikeAt mlX3_51 lmX5_isLikeAt lpX5_isLikeAt ⟨Nat.le_of_ble_eq_true rfl, Nat.le_of_ble_eq_true rfl⟩ ⟨Nat.le_of_ble_eq_true rfl, Nat.le_of_ble_eq_true rfl⟩ rfl ⟨_, (S i2 h2i).2.1⟩ (Nat.le_of_ble_eq_true rfl) (dk rfl) ?_
        rintro _ rfl
        by_cases e2 : sub' other q.2 = sub' other right
        · rw [decide_eq_true ((like_iff wt b2 n1).mpr e2)]
          refine br_ok X (dk rfl) rfl (show ((49 : Nat) : Int) + 6 = ((55 : Nat) : Int) from rfl) (fun q => absurd q bI_t) (fun _ => ?_)
          refine fst1_ok X (dk rfl) rfl ?_
          have ei : (idxP (sub' one left, sub' other right) (prT one other ps)) = k := s1 (by rw [e1, e2])
          exact reti_ok X hr hlk rfl (dk rfl) (⟨by rw [ei]; rfl, by rw [ei, if_pos (by omega)]; exact H, FrP.rf h⟩) (Nat.le_of_ble_eq_true rfl) (Nat.le_of_ble_eq_true rfl)
        · rw [decide_eq_false (fun z => e2 ((like_iff wt b2 n1).mp z))]
          refine br_ok X (dk rfl) rfl (show ((49 : Nat) : Int) + 6 = ((55 : Nat) : Int) from rfl) (fun _ => ?_) (fun q => absurd bI_f' q)
          exact nxt (fun z => e2 z.2) _ rfl
      · rw [decide_eq_false (fun z => e1 ((like_iff wo b1 m1).mp z))]
        refine br_ok X (dk rfl) rfl (show ((30 : Nat) : Int) + 25 = ((55 : Nat) : Int) from rfl) (fun _ => ?_) (fun q => absurd bI_f' q)
        exact nxt (fun z => e1 z.1) _ rfl
  iterate 2 refine fst1_ok X (dk rfl) rfl ?_
  exact loop _ 0 rfl (Nat.zero_le _) (Nat.zero_le _) _ rfl
set_option maxHeartbeats 32000000 in
theorem s3_drawInto (h : AH) (Y : LYO B Q) (W : PRW h pb a1 a2) (hA : ∀ i, i < 52 → a1 ≠ Q i ∧ a2 ≠ Q i) (S : TS B Q h F) {sh : Nat} (hs : h sh = some (5, [.ref pb])) (ha : a1 ≠ a2) {i1 : Nat} (h1i : i1 < 52) {one : List Nat} (hN : TN (F i1) one) (wo : TW one) (lo : one.length ≤ 16) {i2 : Nat} (h2i : i2 < 52) {other : List Nat} (hM : TN (F i2) other) (wt : TW other) (lt : other.length ≤ 16) {i3 : Nat} (h3i : i3 < 52) (h13 : i1 ≠ i3) (h23 : i2 ≠ i3) : CT la D cA B0 pa yX3_drawInto cX3_drawInto 8 (some .boolean) (rmD 3 0 0) [.ref sh, .ref (B i1), .ref (B i2), .ref (B i3)] h (fun v h' => v = some (.int (bI (decide ((comL one other).1.length ≤ 8)))) ∧ PRW h' pb a1 a2 ∧ TS B Q h' (upF F i3 ((comL one other).2.map nI, false)) ∧ FrU B Q [pb, a1, a2] h h') := by
  refine CT_of (by decide +kernel) (Nat.le_of_ble_eq_true rfl) ?_
  intro p e s m args below meth c X E hr hlk hnm
  have dk : ∀ {pc : Nat} {q : Instr × Nat}, lkd DX3_drawInto pc = some q → decode cX3_drawInto pc = .ok q := lkd_ok DX3_drawInto_ok
  have hL3 : pb ∈ [pb, a1, a2] ∧ a1 ∈ [pb, a1, a2] ∧ a2 ∈ [pb, a1, a2] := ⟨List.mem_cons_self, List.mem_cons_of_mem _ List.mem_cons_self, List.mem_cons_of_mem _ (List.mem_cons_of_mem _ List.mem_cons_self)⟩
  have hks : ∀ {hh : AH}, FrU B Q [pb, a1, a2] h hh → hh sh = some (5, [.ref pb]) := fun {hh} f => by
    obtain ⟨⟨wv, w1, w2⟩, ⟨xs, x1, x2⟩, ys, y1, y2⟩ := W
    rw [f sh (fun i hi => ⟨k_ne hs (S i hi).2.1 (by decide), (S i hi).2.2.elim (fun _ q => k_ne hs q.1 (by decide))⟩) (fun z => by
      simp only [List.mem_cons, List.not_mem_nil, or_false] at z
      rcases z with z | z | z
      · exact k_ne hs w2 (by decide) z
      · exact k_ne hs x1 (by decide) z
      · exact k_ne hs y1 (by decide) z)]
    exact hs
  have out : ∀ (hh : AH) (ps : PL2) (M : List Nat), TS B Q hh (upF F i3 (M.map nI, false)) → PRS hh pb a1 a2 ps → FrU B Q [pb, a1, a2] h hh → (prT one other ps, M) = comL one other → ∀ l : List (Nat × Value), lsel l [0] = [(0, .ref sh)] → WR p la e (rmD 3 0 0) s m args below meth c D cA B0 8 (fun v h' => v = some (.int (bI (decide ((comL one other).1.length ≤ 8)))) ∧ PRW h' pb a1 a2 ∧ TS B Q h' (upF F i3 ((comL one other).2.map nI, false)) ∧ FrU B Q [pb, a1, a2] h h') 114 l [] hh 0 0 := by
    intro hh ps M S1 H1 f1 eF l hl
    have h128 := H1.1
    have lp : (comL one other).1.length = ps.length := by rw [← eF]; unfold prT; rw [List.length_map]
    refine WS.sel [0] hl ?_
    refine fst1_ok X (dk rfl) rfl ?_
    refine getf_ok X flX3_12 (dk rfl) (hks f1) rfl ?_
    refine callVR_ok (ci := 4) (T := TX2) (N := 3) (av := []) (r := []) X E (s2_length hh H1) lkX2_length mlX3_47 lmX2_length lpX2_length ⟨Nat.le_of_ble_eq_true rfl, Nat.le_of_ble_eq_true rfl⟩ ⟨Nat.le_of_ble_eq_true rfl, Nat.le_of_ble_eq_true rfl⟩ rfl ⟨_, H1.2.2.1⟩ (Nat.le_of_ble_eq_true rfl) (dk rfl) ?_
    rintro _ rfl
    refine fst1_ok X (dk rfl) rfl ?_
    have fin : ∀ (bb : Bool), bb = decide ((comL one other).1.length ≤ 8) → ∀ l : List (Nat × Value), WR p la e (rmD 3 0 0) s m args below meth c D cA B0 8 (fun v h' => v = some (.int (bI (decide ((comL one other).1.length ≤ 8)))) ∧ PRW h' pb a1 a2 ∧ TS B Q h' (upF F i3 ((comL one other).2.map nI, false)) ∧ FrU B Q [pb, a1, a2] h h') 131 l [.int (bI bb)] hh 0 0 := by
      intro bb hbb l
      exact reti_ok X hr hlk (bI_n bb) (dk rfl) ⟨by rw [hbb], H1.w, by rw [show (comL one other).2 = M by rw [← eF]]; exact S1, f1⟩ (Nat.le_of_ble_eq_true rfl) (Nat.le_of_ble_eq_true rfl)
    by_cases h8 : ps.length ≤ 8
    · refine br_ok X (dk rfl) rfl (show ((123 : Nat) : Int) + 7 = ((130 : Nat) : Int) from rfl) (fun q => absurd q (fun z => by rw [nI_8'] at z; exact absurd ((nI_ltI (by omega) (by omega)).mp z) (by omega))) (fun _ => ?_)
      refine fst1_ok X (dk rfl) rfl ?_
      refine br_ok X (dk rfl) rfl (show ((127 : Nat) : Int) + 4 = ((131 : Nat) : Int) from rfl) (fun _ => ?_) (fun q => absurd trivial q)
      exact fin true (by rw [lp, decide_eq_true h8]) _
    · refine br_ok X (dk rfl) rfl (show ((123 : Nat) : Int) + 7 = ((130 : Nat) : Int) from rfl) (fun _ => ?_) (fun q => absurd (by rw [nI_8']; exact (nI_ltI (by omega) (by omega)).mpr (by omega)) q)
      refine fst1_ok X (dk rfl) rfl ?_
      exact fin false (by rw [lp, decide_eq_false h8]) _
  have loop : ∀ (n k a b nd : Nat) (ps : PL2) (M : List Nat) (hh : AH), n + k = 16 → ps.length ≤ k → M.length = k → one.length ≤ n + a → CI one other a b (prT one other ps) M nd → (∀ q ∈ ps, q.1 < one.length ∧ q.2 < other.length) → comF one other n a b (prT one other ps) M = comL one other → TS B Q hh (upF F i3 (M.map nI, false)) → PRS hh pb a1 a2 ps → FrU B Q [pb, a1, a2] h hh → ∀ l : List (Nat × Value), lsel l [6, 5, 4, 3, 2, 1, 0] = [(6, vI k), (5, vI b), (4, vI a), (3, .ref (B i3)), (2, .ref (B i2)), (1, .ref (B i1)), (0, .ref sh)] → WR p la e (rmD 3 0 0) s m args below meth c D cA B0 8 (fun v h' => v = some (.int (bI (decide ((comL one other).1.length ≤ 8)))) ∧ PRW h' pb a1 a2 ∧ TS B Q h' (upF F i3 ((comL one other).2.map nI, false)) ∧ FrU B Q [pb, a1, a2] h h') 20 l [] hh 0 0 := by
    intro n
    induction n with
    | zero =>
      intro k a b nd ps M hh hn hp hM2 hna ci hpl eF S1 H1 f1 l hl
      have hk : k = 16 := by omega
      refine WS.sel [6, 5, 4, 3, 2, 1, 0] hl ?_
      iterate 2 refine fst1_ok X (dk rfl) rfl ?_
      refine br_ok X (dk rfl) rfl (show ((24 : Nat) : Int) + 90 = ((114 : Nat) : Int) from rfl) (fun _ => ?_) (fun q => absurd (by rw [hk, nI_16]; exact Int32.le_refl _) q)
      exact out hh ps M S1 H1 f1 eF _ rfl
    | succ n ih =>
      intro k a b nd ps M hh hn hp hM2 hna ci hpl eF S1 H1 f1 l hl
      have e1 : upF F i3 (M.map nI, false) i1 = F i1 := upF_ne _ _ h13
      have e2 : upF F i3 (M.map nI, false) i2 = F i2 := upF_ne _ _ h23
      have hN1 : TN (upF F i3 (M.map nI, false) i1) one := by rw [e1]; exact hN
      have hM1 : TN (upF F i3 (M.map nI, false) i2) other := by rw [e2]; exact hM
      refine WS.sel [6, 5, 4, 3, 2, 1, 0] hl ?_
      iterate 2 refine fst1_ok X (dk rfl) rfl ?_
      refine br_ok X (dk rfl) rfl (show ((24 : Nat) : Int) + 90 = ((114 : Nat) : Int) from rfl) (fun q => absurd q (by rw [nI_16]; exact nI_ge (by omega) (by omega))) (fun _ => ?_)
      iterate 2 refine fst1_ok X (dk rfl) rfl ?_
      refine callVR_ok (ci := 7) (T := TX5) (N := 3) (av := []) (r := [vI a]) X E (s5_length hh S1 h1i) lkX5_length mlX3_24 lmX5_length lpX5_length ⟨Nat.le_of_ble_eq_true rfl, Nat.le_of_ble_eq_true rfl⟩ ⟨Nat.le_of_ble_eq_true rfl, Nat.le_of_ble_eq_true rfl⟩ rfl ⟨_, (S1 i1 h1i).2.1⟩ (Nat.le_of_ble_eq_true rfl) (dk rfl) ?_
      rintro _ rfl
      rw [e1, hN.len]
      have c3 := ci.2.2.1
      have c4 := ci.2.2.2.1
      rcases Nat.lt_or_ge a one.length with hal | hal
      · refine br_ok X (dk rfl) rfl (show ((33 : Nat) : Int) + 81 = ((114 : Nat) : Int) from rfl) (fun q => absurd q (nI_ge (by omega) (by omega))) (fun _ => ?_)
        iterate 2 refine fst1_ok X (dk rfl) rfl ?_
        obtain ⟨x, hx⟩ : ∃ x, one[a]? = some x := ⟨_, List.getElem?_eq_getElem hal⟩
        have hok := hN.2 x (List.mem_of_getElem? hx)
        have hxx := hok.lt
        refine callVR_ok (ci := 7) (T := TX5) (N := 3) (av := [vI a]) (r := []) X E (s5_letterAt hh S1 h1i (nI a)) lkX5_letterAt mlX3_28 lmX5_letterAt lpX5_letterAt ⟨Nat.le_of_ble_eq_true rfl, Nat.le_of_ble_eq_true rfl⟩ ⟨Nat.le_of_ble_eq_true rfl, Nat.le_of_ble_eq_true rfl⟩ rfl ⟨_, (S1 i1 h1i).2.1⟩ (Nat.le_of_ble_eq_true rfl) (dk rfl) ?_
        rintro _ rfl
        rw [hN1.lt hx (by omega)]
        iterate 2 refine fst1_ok X (dk rfl) rfl ?_
        refine callNR_ok (av := [vI x]) (r := []) X E (s6_isHead hh (x := x) (by omega)) lkX6_isHead mnX3_32 lsX6_isHead ⟨Nat.le_of_ble_eq_true rfl, Nat.le_of_ble_eq_true rfl⟩ ⟨Nat.le_of_ble_eq_true rfl, Nat.le_of_ble_eq_true rfl⟩ (Nat.le_of_ble_eq_true rfl) (dk rfl) ?_
        rintro _ rfl
        obtain ⟨hbl, -, -, -, -, -, -, -, -, -, -, nd2, ci2⟩ := CI_name ci wo wt lo lt hal
        obtain ⟨y, hy⟩ : ∃ y, other[b]? = some y := ⟨_, List.getElem?_eq_getElem hbl⟩
        have hyx := (hM.2 y (List.mem_of_getElem? hy)).lt
        unfold comF at eF
        rw [hx, hy] at eF
        replace eF : (if x = y ∧ 10 ≤ x then comF one other n (a + 1) (b + 1) (prT one other ps) (M ++ [x]) else comF one other n (a + tl one a) (b + tl other b) (if idxP (sub' one a, sub' other b) (prT one other ps) < (prT one other ps).length then prT one other ps else prT one other ps ++ [(sub' one a, sub' other b)]) (M ++ [idxP (sub' one a, sub' other b) (prT one other ps)])) = comL one other := eF
        have f3 : Value.int (nI k + Int32.ofInt 1) = vI (k + 1) := congrArg Value.int (by rw [nI_1', nI_add])
        have fa : Value.int (nI a + Int32.ofInt 1) = vI (a + 1) := congrArg Value.int (by rw [nI_1', nI_add])
        have fb : Value.int (nI b + Int32.ofInt 1) = vI (b + 1) := congrArg Value.int (by rw [nI_1', nI_add])
        have hr3 := rmI_ge i3
        have eadd : ∀ z : Nat, addC (rmI i3) (upF F i3 (M.map nI, false) i3) (nI z) = ((M ++ [z]).map nI, false) := fun z => by
          rw [upF_self]
          unfold addC
          rw [if_pos (by show (M.map nI).length < rmI i3; rw [List.length_map]; omega), List.map_append]
          rfl
        have nxt : ∀ (a b nd : Nat) (ps : PL2) (z : Nat) (h2 : AH), ps.length ≤ k + 1 → one.length ≤ n + a → CI one other a b (prT one other ps) (M ++ [z]) nd → (∀ q ∈ ps, q.1 < one.length ∧ q.2 < other.length) → comF one other n a b (prT one other ps) (M ++ [z]) = comL one other → TS B Q h2 (upF F i3 ((M ++ [z]).map nI, false)) → PRS h2 pb a1 a2 ps → FrU B Q [pb, a1, a2] h h2 → ∀ l : List (Nat × Value), lsel l [6, 5, 4, 3, 2, 1, 0] = [(6, vI k), (5, vI b), (4, vI a), (3, .ref (B i3)), (2, .ref (B i2)), (1, .ref (B i1)), (0, .ref sh)] → WR p la e (rmD 3 0 0) s m args below meth c D cA B0 8 (fun v h' => v = some (.int (bI (decide ((comL one other).1.length ≤ 8)))) ∧ PRW h' pb a1 a2 ∧ TS B Q h' (upF F i3 ((comL one other).2.map nI, false)) ∧ FrU B Q [pb, a1, a2] h h') 108 l [] h2 0 0 := by
          intro a b nd ps z h2 g1 g2 g3 g4 g5 g6 g7 g8 l hl
          refine WS.sel [6, 5, 4, 3, 2, 1, 0] hl ?_
          refine fst1_ok X (dk rfl) rfl ?_
          refine br_ok X (dk rfl) rfl (show ((111 : Nat) : Int) + (-91) = ((20 : Nat) : Int) from rfl) (fun _ => ?_) (fun q => absurd trivial q)
          refine WS.sel (l' := [(6, vI (k + 1)), (5, vI b), (4, vI a), (3, .ref (B i3)), (2, .ref (B i2)), (1, .ref (B i1)), (0, .ref sh)]) [6, 5, 4, 3, 2, 1, 0] (by rw [← f3]; rfl) ?_
          exact ih (k + 1) a b nd ps (M ++ [z]) h2 (by omega) g1 (by rw [List.length_append, List.length_singleton]; omega) g2 g3 g4 g5 g6 g7 g8 _ rfl
        have name : ¬ (x = y ∧ 10 ≤ x) → ∀ l : List (Nat × Value), lsel l [6, 5, 4, 3, 2, 1, 0] = [(6, vI k), (5, vI b), (4, vI a), (3, .ref (B i3)), (2, .ref (B i2)), (1, .ref (B i1)), (0, .ref sh)] → WR p la e (rmD 3 0 0) s m args below meth c D cA B0 8 (fun v h' => v = some (.int (bI (decide ((comL one other).1.length ≤ 8)))) ∧ PRW h' pb a1 a2 ∧ TS B Q h' (upF F i3 ((comL one other).2.map nI, false)) ∧ FrU B Q [pb, a1, a2] h h') 78 l [] hh 0 0 := by
          intro hne l hl
          rw [if_neg hne] at eF
          obtain ⟨m1, m2, m3, m4⟩ := subTW wo hal
          obtain ⟨n1, n2, n3, n4⟩ := subTW wt hbl
          refine WS.sel [6, 5, 4, 3, 2, 1, 0] hl ?_
          iterate 6 refine fst1_ok X (dk rfl) rfl ?_
          refine callV_ok (ci := 5) (T := TX3) (N := 1) (av := [.ref (B i1), vI a, .ref (B i2), vI b]) (r := [.ref (B i3)]) X E (s3_nameFor hh H1 S1 (hks f1) ha h1i hN1 wo lo h2i hM1 wt lt hpl (by omega) hal hbl) lkX3_nameFor mlX3_40 lmX3_nameFor lpX3_nameFor ⟨Nat.le_of_ble_eq_true rfl, Nat.le_of_ble_eq_true rfl⟩ ⟨Nat.le_of_ble_eq_true rfl, Nat.le_of_ble_eq_true rfl⟩ rfl (hks f1) (Nat.le_of_ble_eq_true rfl) (dk rfl) ?_
          rintro _ h2 ⟨rfl, H2, f2⟩
          have S2 := S1.frPw f2 H1.w hA
          refine callVT_ok (ci := 7) (T := TX5) (N := 3) (av := [vI (idxP (sub' one a, sub' other b) (prT one other ps))]) (r := []) X E (s5_add h2 Y S2 h3i (nI (idxP (sub' one a, sub' other b) (prT one other ps)))) lkX5_add mlX3_36 lmX5_add lpX5_add ⟨Nat.le_of_ble_eq_true rfl, Nat.le_of_ble_eq_true rfl⟩ ⟨Nat.le_of_ble_eq_true rfl, Nat.le_of_ble_eq_true rfl⟩ rfl (S2 i3 h3i).2.1 (Nat.le_of_ble_eq_true rfl) (dk rfl) (fun h3 S3 f3 => ?_)
          rw [eadd, upF_up] at S3
          have hN3 : ∀ {z : TC}, TN (upF F i3 z i1) one := fun {z} => by rw [upF_ne _ _ h13]; exact hN
          have hM3 : ∀ {z : TC}, TN (upF F i3 z i2) other := fun {z} => by rw [upF_ne _ _ h23]; exact hM
          iterate 2 refine fst1_ok X (dk rfl) rfl ?_
          refine callVR_ok (ci := 7) (T := TX5) (N := 3) (av := [vI a]) (r := []) X E (s5_endOf h3 S3 h1i hN3 m1) lkX5_endOf mlX3_44 lmX5_endOf lpX5_endOf ⟨Nat.le_of_ble_eq_true rfl, Nat.le_of_ble_eq_true rfl⟩ ⟨Nat.le_of_ble_eq_true rfl, Nat.le_of_ble_eq_true rfl⟩ rfl ⟨_, (S3 i1 h1i).2.1⟩ (Nat.le_of_ble_eq_true rfl) (dk rfl) ?_
          rintro _ rfl
          iterate 3 refine fst1_ok X (dk rfl) rfl ?_
          refine callVR_ok (ci := 7) (T := TX5) (N := 3) (av := [vI b]) (r := []) X E (s5_endOf h3 S3 h2i hM3 n1) lkX5_endOf mlX3_44 lmX5_endOf lpX5_endOf ⟨Nat.le_of_ble_eq_true rfl, Nat.le_of_ble_eq_true rfl⟩ ⟨Nat.le_of_ble_eq_true rfl, Nat.le_of_ble_eq_true rfl⟩ rfl ⟨_, (S3 i2 h2i).2.1⟩ (Nat.le_of_ble_eq_true rfl) (dk rfl) ?_
          rintro _ rfl
          refine fst1_ok X (dk rfl) rfl ?_
          have ep : prT one other (if idxP (sub' one a, sub' other b) (prT one other ps) < ps.length then ps else ps ++ [(a, b)]) = (if idxP (sub' one a, sub' other b) (prT one other ps) < (prT one other ps).length then prT one other ps else prT one other ps ++ [(sub' one a, sub' other b)]) := by
            rw [show (prT one other ps).length = ps.length by unfold prT; rw [List.length_map]]
            split
            · rfl
            · unfold prT
              rw [List.map_append]
              rfl
          rw [← ep] at eF ci2
          exact nxt _ _ nd2 _ _ h3 (by split <;> (try rw [List.length_append, List.length_singleton]) <;> omega) (by omega) ci2 (by
            intro q hq
            split at hq
            · exact hpl q hq
            · rcases List.mem_append.mp hq with z | z
              · exact hpl q z
              · rw [List.mem_singleton.mp z]
                exact ⟨hal, hbl⟩) eF S3 (H2.frT S2 hA f3) ((f1.trans (f2.u hL3)).trans (f3.u _)) _ rfl
        by_cases h10 : 10 ≤ x
        · rw [decide_eq_true (p := 10 ≤ x ∧ x < 18) ⟨h10, hxx⟩]
          refine br_ok X (dk rfl) rfl (show ((49 : Nat) : Int) + 29 = ((78 : Nat) : Int) from rfl) (fun q => absurd q bI_t) (fun _ => ?_)
          iterate 3 refine fst1_ok X (dk rfl) rfl ?_
          refine callVR_ok (ci := 7) (T := TX5) (N := 3) (av := [vI b]) (r := [vI x]) X E (s5_letterAt hh S1 h2i (nI b)) lkX5_letterAt mlX3_28 lmX5_letterAt lpX5_letterAt ⟨Nat.le_of_ble_eq_true rfl, Nat.le_of_ble_eq_true rfl⟩ ⟨Nat.le_of_ble_eq_true rfl, Nat.le_of_ble_eq_true rfl⟩ rfl ⟨_, (S1 i2 h2i).2.1⟩ (Nat.le_of_ble_eq_true rfl) (dk rfl) ?_
          rintro _ rfl
          rw [hM1.lt hy (by omega)]
          by_cases hxy : x = y
          · rw [if_pos ⟨hxy, h10⟩] at eF
            obtain ⟨nd2, ci2⟩ := CI_head ci hx (by rw [hxy]; exact hy) h10 hxx
            refine br_ok X (dk rfl) rfl (show ((60 : Nat) : Int) + 18 = ((78 : Nat) : Int) from rfl) (fun q => absurd (by rw [hxy]) q) (fun _ => ?_)
            iterate 2 refine fst1_ok X (dk rfl) rfl ?_
            refine callVT_ok (ci := 7) (T := TX5) (N := 3) (av := [vI x]) (r := []) X E (s5_add hh Y S1 h3i (nI x)) lkX5_add mlX3_36 lmX5_add lpX5_add ⟨Nat.le_of_ble_eq_true rfl, Nat.le_of_ble_eq_true rfl⟩ ⟨Nat.le_of_ble_eq_true rfl, Nat.le_of_ble_eq_true rfl⟩ rfl (S1 i3 h3i).2.1 (Nat.le_of_ble_eq_true rfl) (dk rfl) (fun h2 S2 f2 => ?_)
            rw [eadd, upF_up] at S2
            iterate 2 refine fst1_ok X (dk rfl) rfl ?_
            refine br_ok X (dk rfl) rfl (show ((75 : Nat) : Int) + 33 = ((108 : Nat) : Int) from rfl) (fun _ => ?_) (fun q => absurd trivial q)
            refine WS.sel (l' := [(6, vI k), (5, vI (b + 1)), (4, vI (a + 1)), (3, .ref (B i3)), (2, .ref (B i2)), (1, .ref (B i1)), (0, .ref sh)]) [6, 5, 4, 3, 2, 1, 0] (by rw [← fa, ← fb]; rfl) ?_
            exact nxt (a + 1) (b + 1) nd2 ps x h2 (by omega) (by omega) ci2 hpl eF S2 (H1.frT S1 hA f2) (f1.trans (f2.u _)) _ rfl
          · refine br_ok X (dk rfl) rfl (show ((60 : Nat) : Int) + 18 = ((78 : Nat) : Int) from rfl) (fun _ => ?_) (fun q => absurd (fun z => hxy (nI_inj (by omega) (by omega) z)) q)
            exact name (fun z => hxy z.1) _ rfl
        · rw [decide_eq_false (p := 10 ≤ x ∧ x < 18) (fun z => h10 z.1)]
          refine br_ok X (dk rfl) rfl (show ((49 : Nat) : Int) + 29 = ((78 : Nat) : Int) from rfl) (fun _ => ?_) (fun q => absurd bI_f' q)
          exact name (fun z => h10 z.2) _ rfl
      · refine br_ok X (dk rfl) rfl (show ((33 : Nat) : Int) + 81 = ((114 : Nat) : Int) from rfl) (fun _ => ?_) (fun q => absurd ((nI_leI (by omega) (by omega)).mpr hal) q)
        unfold comF at eF
        rw [List.getElem?_eq_none hal] at eF
        exact out hh ps M S1 H1 f1 eF _ rfl
  refine fst1_ok X (dk rfl) rfl ?_
  refine getf_ok X flX3_12 (dk rfl) hs rfl ?_
  refine callV_ok (ci := 4) (T := TX2) (N := 3) (av := []) (r := []) X E (s2_empty h W) lkX2_empty mlX3_18 lmX2_empty lpX2_empty ⟨Nat.le_of_ble_eq_true rfl, Nat.le_of_ble_eq_true rfl⟩ ⟨Nat.le_of_ble_eq_true rfl, Nat.le_of_ble_eq_true rfl⟩ rfl W.1.choose_spec.2 (Nat.le_of_ble_eq_true rfl) (dk rfl) ?_
  rintro _ h1 ⟨rfl, H1, f1⟩
  have S1 := S.frPw f1 W hA
  refine fst1_ok X (dk rfl) rfl ?_
  refine callVT_ok (ci := 7) (T := TX5) (N := 3) (av := []) (r := []) X E (s5_empty h1 Y S1 h3i) lkX5_empty mlX3_21 lmX5_empty lpX5_empty ⟨Nat.le_of_ble_eq_true rfl, Nat.le_of_ble_eq_true rfl⟩ ⟨Nat.le_of_ble_eq_true rfl, Nat.le_of_ble_eq_true rfl⟩ rfl (S1 i3 h3i).2.1 (Nat.le_of_ble_eq_true rfl) (dk rfl) (fun h2 S2 f2 => ?_)
  iterate 6 refine fst1_ok X (dk rfl) rfl ?_
  exact loop 16 0 0 0 1 [] [] h2 rfl (Nat.zero_le _) rfl lo (CI_0 wo wt) (fun q hq => by simp at hq) rfl S2 (H1.frT S1 hA f2) ((f1.u hL3).trans (f2.u _)) _ rfl
end S13
