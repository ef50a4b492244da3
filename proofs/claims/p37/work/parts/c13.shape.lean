section Uc13shape
/-! the class, strongly: pairs that wait, shapes (printed by wip/p20/genT3.py) -/
/-- outside terms and some cells all stays -/
def FrU (B Q : Nat → Nat) (L : List Nat) (h h' : AH) : Prop := ∀ a : Nat, (∀ i, i < 52 → a ≠ B i ∧ a ≠ Q i) → a ∉ L → h' a = h a
/-- outside the pairs' cells all stays -/
def FrP (pb a1 a2 : Nat) (h h' : AH) : Prop := ∀ a : Nat, a ≠ pb → a ≠ a1 → a ≠ a2 → h' a = h a
theorem FrP.rf {pb a1 a2 : Nat} (h : AH) : FrP pb a1 a2 h h := fun _ _ _ _ => rfl
theorem FrP.trans {pb a1 a2 : Nat} {h1 h2 h3 : AH} (x : FrP pb a1 a2 h1 h2) (y : FrP pb a1 a2 h2 h3) : FrP pb a1 a2 h1 h3 := fun a k1 k2 k3 => (y a k1 k2 k3).trans (x a k1 k2 k3)
theorem FrP.set {pb a1 a2 : Nat} {h h' : AH} (x : FrP pb a1 a2 h h') {q : Nat} (hq : q = pb ∨ q = a1 ∨ q = a2) (c : AC) : FrP pb a1 a2 h (hup h' q c) := fun a k1 k2 k3 => by
  rw [hup_ne _ _ (by rcases hq with rfl | rfl | rfl <;> assumption)]
  exact x a k1 k2 k3
theorem FrU.rf {B Q : Nat → Nat} {L : List Nat} (h : AH) : FrU B Q L h h := fun _ _ _ => rfl
theorem FrU.trans {B Q : Nat → Nat} {L : List Nat} {h1 h2 h3 : AH} (x : FrU B Q L h1 h2) (y : FrU B Q L h2 h3) : FrU B Q L h1 h3 := fun a k1 k2 => (y a k1 k2).trans (x a k1 k2)
theorem FrT.u {B Q : Nat → Nat} {h h' : AH} (x : FrT B Q h h') (L : List Nat) : FrU B Q L h h' := fun a k1 _ => x a k1
theorem FrP.u {B Q : Nat → Nat} {pb a1 a2 : Nat} {h h' : AH} (x : FrP pb a1 a2 h h') {L : List Nat} (hL : pb ∈ L ∧ a1 ∈ L ∧ a2 ∈ L) : FrU B Q L h h' := fun a _ k => x a (fun z => k (z ▸ hL.1)) (fun z => k (z ▸ hL.2.1)) (fun z => k (z ▸ hL.2.2))
theorem FrU.set {B Q : Nat → Nat} {L : List Nat} {h h' : AH} (x : FrU B Q L h h') {q : Nat} (hq : q ∈ L) (c : AC) : FrU B Q L h (hup h' q c) := fun a k1 k2 => by
  rw [hup_ne _ _ (fun (z : a = q) => k2 (by rw [z]; exact hq))]
  exact x a k1 k2
/-- the pairs that wait -/
def PRS (h : AH) (pb a1 a2 : Nat) (ps : PL2) : Prop := ps.length ≤ 128 ∧ (∀ q ∈ ps, q.1 < 2 ^ 20 ∧ q.2 < 2 ^ 20) ∧ h pb = some (4, [.ref a1, .ref a2, vI ps.length]) ∧
  (∃ xs : List Int32, h a1 = some (107, xs.map Value.int) ∧ xs.length = 128 ∧ xs.take ps.length = ps.map (fun q => nI q.1)) ∧ ∃ ys : List Int32, h a2 = some (107, ys.map Value.int) ∧ ys.length = 128 ∧ ys.take ps.length = ps.map (fun q => nI q.2)
/-- pairs of any content -/
def PRW (h : AH) (pb a1 a2 : Nat) : Prop := (∃ w : Nat, w ≤ 128 ∧ h pb = some (4, [.ref a1, .ref a2, vI w])) ∧ (∃ xs : List Int32, h a1 = some (107, xs.map Value.int) ∧ xs.length = 128) ∧ ∃ ys : List Int32, h a2 = some (107, ys.map Value.int) ∧ ys.length = 128
theorem PRS.w {h : AH} {pb a1 a2 : Nat} {ps : PL2} (H : PRS h pb a1 a2 ps) : PRW h pb a1 a2 := by
  obtain ⟨h1, -, h3, ⟨xs, x1, x2, -⟩, ys, y1, y2, -⟩ := H
  exact ⟨⟨_, h1, h3⟩, ⟨xs, x1, x2⟩, ys, y1, y2⟩
theorem PRW.empty {h : AH} {pb a1 a2 : Nat} (H : PRW h pb a1 a2) : PRS (hup h pb (4, [.ref a1, .ref a2, vI 0])) pb a1 a2 [] := by
  obtain ⟨⟨w, w1, w2⟩, ⟨xs, x1, x2⟩, ys, y1, y2⟩ := H
  exact ⟨Nat.zero_le _, fun q hq => by simp at hq, hup_self _ _ _, ⟨xs, by rw [hup_ne _ _ (k_ne x1 w2 (by decide))]; exact x1, x2, rfl⟩, ys, by rw [hup_ne _ _ (k_ne y1 w2 (by decide))]; exact y1, y2, rfl⟩
/-- fewer of them -/
theorem PRS.fewer {h : AH} {pb a1 a2 : Nat} {ps qs : PL2} (H : PRS h pb a1 a2 (ps ++ qs)) : PRS (hup h pb (4, [.ref a1, .ref a2, vI ps.length])) pb a1 a2 ps := by
  obtain ⟨h1, h2, h3, ⟨xs, x1, x2, x3⟩, ys, y1, y2, y3⟩ := H
  rw [List.length_append] at h1 x3 y3
  refine ⟨by omega, fun q hq => h2 q (List.mem_append_left _ hq), hup_self _ _ _, ⟨xs, by rw [hup_ne _ _ (k_ne x1 h3 (by decide))]; exact x1, x2, ?_⟩, ys, by rw [hup_ne _ _ (k_ne y1 h3 (by decide))]; exact y1, y2, ?_⟩
  · have := congrArg (List.take ps.length) x3
    rw [List.take_take, Nat.min_eq_left (by omega), List.map_append, List.take_append_of_le_length (by rw [List.length_map]; omega), List.take_of_length_le (l := ps.map (fun q => nI q.1)) (Nat.le_of_eq (List.length_map _))] at this
    exact this
  · have := congrArg (List.take ps.length) y3
    rw [List.take_take, Nat.min_eq_left (by omega), List.map_append, List.take_append_of_le_length (by rw [List.length_map]; omega), List.take_of_length_le (l := ps.map (fun q => nI q.2)) (Nat.le_of_eq (List.length_map _))] at this
    exact this
theorem take_snoc {xs : List Int32} {n : Nat} {zs : List Int32} {v : Int32} (h : xs.take n = zs) (hn : n < xs.length) : (xs.set n v).take (n + 1) = zs ++ [v] := by
  rw [List.take_add_one, List.take_set, List.set_eq_of_length_le (by rw [List.length_take]; omega), h, List.getElem?_set_self hn]
  rfl
section PRs
variable {h h' : AH} {pb a1 a2 : Nat} {ps : PL2} {B Q : Nat → Nat} {F : Nat → TC}
theorem PRS.one (H : PRS h pb a1 a2 ps) {k : Nat} {q : Nat × Nat} (hk : ps[k]? = some q) : ∃ xs ys : List Int32, h a1 = some (107, xs.map Value.int) ∧ xs.length = 128 ∧ xs[k]? = some (nI q.1) ∧ h a2 = some (107, ys.map Value.int) ∧ ys.length = 128 ∧ ys[k]? = some (nI q.2) := by
  obtain ⟨h1, h2, h3, ⟨xs, x1, x2, x3⟩, ys, y1, y2, y3⟩ := H
  exact ⟨xs, ys, x1, x2, take_get x3 (by rw [List.getElem?_map, hk]; rfl), y1, y2, take_get y3 (by rw [List.getElem?_map, hk]; rfl)⟩
theorem PRW.frT (H : PRW h pb a1 a2) (S : TS B Q h F) (ha : ∀ i, i < 52 → a1 ≠ Q i ∧ a2 ≠ Q i) (x : FrT B Q h h') : PRW h' pb a1 a2 := by
  obtain ⟨⟨w, w1, w2⟩, ⟨xs, x1, x2⟩, ys, y1, y2⟩ := H
  refine ⟨⟨w, w1, x.keep S w2 (by decide) (by decide)⟩, ⟨xs, by rw [x a1 (fun i hi => ⟨k_ne x1 (S i hi).2.1 (by decide), (ha i hi).1⟩)]; exact x1, x2⟩, ys, by rw [x a2 (fun i hi => ⟨k_ne y1 (S i hi).2.1 (by decide), (ha i hi).2⟩)]; exact y1, y2⟩
theorem PRS.frT (H : PRS h pb a1 a2 ps) (S : TS B Q h F) (ha : ∀ i, i < 52 → a1 ≠ Q i ∧ a2 ≠ Q i) (x : FrT B Q h h') : PRS h' pb a1 a2 ps := by
  obtain ⟨h1, h2, h3, ⟨xs, x1, x2, x3⟩, ys, y1, y2, y3⟩ := H
  exact ⟨h1, h2, x.keep S h3 (by decide) (by decide), ⟨xs, by rw [x a1 (fun i hi => ⟨k_ne x1 (S i hi).2.1 (by decide), (ha i hi).1⟩)]; exact x1, x2, x3⟩, ys, by rw [x a2 (fun i hi => ⟨k_ne y1 (S i hi).2.1 (by decide), (ha i hi).2⟩)]; exact y1, y2, y3⟩
theorem TS.frP (S : TS B Q h F) (x : FrP pb a1 a2 h h') {vs : List Value} (hp : h pb = some (4, vs)) {k1 k2 : List Value} (h1 : h a1 = some (107, k1)) (h2 : h a2 = some (107, k2)) (ha : ∀ i, i < 52 → a1 ≠ Q i ∧ a2 ≠ Q i) : TS B Q h' F := fun i hi => by
  obtain ⟨s1, s2, xs, s3, s4⟩ := S i hi
  refine ⟨s1, by rw [x _ (k_ne s2 hp (by decide)) (k_ne s2 h1 (by decide)) (k_ne s2 h2 (by decide))]; exact s2, xs, ?_, s4⟩
  rw [x _ (k_ne s3 hp (by decide)) (Ne.symm (ha i hi).1) (Ne.symm (ha i hi).2)]
  exact s3
theorem TS.frPw (S : TS B Q h F) (x : FrP pb a1 a2 h h') (H : PRW h pb a1 a2) (ha : ∀ i, i < 52 → a1 ≠ Q i ∧ a2 ≠ Q i) : TS B Q h' F := by
  obtain ⟨⟨w, w1, w2⟩, ⟨xs, x1, x2⟩, ys, y1, y2⟩ := H
  exact S.frP x w2 x1 y1 ha
theorem FrP.keep (x : FrP pb a1 a2 h h') (H : PRW h pb a1 a2) {a k : Nat} {vs : List Value} (e : h a = some (k, vs)) (h4 : k ≠ 4) (h7 : k ≠ 107) : h' a = some (k, vs) := by
  obtain ⟨⟨w, w1, w2⟩, ⟨xs, x1, x2⟩, ys, y1, y2⟩ := H
  rw [x a (k_ne e w2 h4) (k_ne e x1 h7) (k_ne e y1 h7)]
  exact e
end PRs
/-- a method that changes pairs alone -/
def PP (pb a1 a2 : Nat) (ps : PL2) (h : AH) (v : Option Value) (h' : AH) : Prop := v = none ∧ PRS h' pb a1 a2 ps ∧ FrP pb a1 a2 h h'
section S13
variable {la : Launch} {D : va_G} {cA : Nat → ClassId} {B0 pa : Nat} {B Q P : Nat → Nat} {F : Nat → TC} {pb a1 a2 : Nat} {ps : PL2}
set_option maxHeartbeats 4000000 in
theorem s2_empty (h : AH) (H : PRW h pb a1 a2) : CT la D cA B0 pa yX2_empty cX2_empty 1 none (rmD 0 0 0) [.ref pb] h (PP pb a1 a2 [] h) := by
  refine CT_of (by decide +kernel) (Nat.le_of_ble_eq_true rfl) ?_
  intro p e s m args below meth c X E hr hlk hnm
  have dk : ∀ {pc : Nat} {q : Instr × Nat}, lkd DX2_empty pc = some q → decode cX2_empty pc = .ok q := lkd_ok DX2_empty_ok
  obtain ⟨wv, w1, w2⟩ := H.1
  iterate 2 refine fst1_ok X (dk rfl) rfl ?_
  refine putf_ok X flX2_18 ftX2_2 (Or.inl rfl) rfl rfl (dk rfl) w2 (Nat.le_of_ble_eq_true rfl) ?_
  rw [nI_0']
  exact retv_ok X hr hlk (dk rfl) (⟨rfl, H.empty, (FrP.rf h).set (Or.inl rfl) _⟩) (Nat.le_of_ble_eq_true rfl) (Nat.le_of_ble_eq_true rfl)
set_option maxHeartbeats 4000000 in
theorem s2_length (h : AH) (H : PRS h pb a1 a2 ps) : CT la D cA B0 pa yX2_length cX2_length 1 (some .int) (rmD 0 0 0) [.ref pb] h (RP (vI ps.length) h) := by
  refine CT_of (by decide +kernel) (Nat.le_of_ble_eq_true rfl) ?_
  intro p e s m args below meth c X E hr hlk hnm
  have dk : ∀ {pc : Nat} {q : Instr × Nat}, lkd DX2_length pc = some q → decode cX2_length pc = .ok q := lkd_ok DX2_length_ok
  refine fst1_ok X (dk rfl) rfl ?_
  refine getf_ok X flX2_18 (dk rfl) H.2.2.1 rfl ?_
  exact reti_ok X hr hlk rfl (dk rfl) (⟨rfl, rfl⟩) (Nat.le_of_ble_eq_true rfl) (Nat.le_of_ble_eq_true rfl)
set_option maxHeartbeats 4000000 in
theorem s2_oneAt (h : AH) (H : PRS h pb a1 a2 ps) {k : Nat} {q : Nat × Nat} (hk : ps[k]? = some q) : CT la D cA B0 pa yX2_oneAt cX2_oneAt 2 (some .int) (rmD 0 0 0) [.ref pb, vI k] h (RP (vI q.1) h) := by
  refine CT_of (by decide +kernel) (Nat.le_of_ble_eq_true rfl) ?_
  intro p e s m args below meth c X E hr hlk hnm
  have dk : ∀ {pc : Nat} {q : Instr × Nat}, lkd DX2_oneAt pc = some q → decode cX2_oneAt pc = .ok q := lkd_ok DX2_oneAt_ok
  obtain ⟨xs, ys, x1, x2, x3, y1, y2, y3⟩ := H.one hk
  have hkl := (List.getElem?_eq_some_iff.mp hk).1
  have h128 := H.1
  refine fst1_ok X (dk rfl) rfl ?_
  refine br_ok X (dk rfl) rfl (show ((1 : Nat) : Int) + 27 = ((28 : Nat) : Int) from rfl) (fun q => absurd q (nI_pos (by omega))) (fun _ => ?_)
  iterate 2 refine fst1_ok X (dk rfl) rfl ?_
  refine getf_ok X flX2_18 (dk rfl) H.2.2.1 rfl ?_
  refine br_ok X (dk rfl) rfl (show ((9 : Nat) : Int) + 19 = ((28 : Nat) : Int) from rfl) (fun q => absurd q (nI_ge (by omega) (by omega))) (fun _ => ?_)
  iterate 2 refine fst1_ok X (dk rfl) rfl ?_
  refine br_ok X (dk rfl) rfl (show ((16 : Nat) : Int) + 12 = ((28 : Nat) : Int) from rfl) (fun q => absurd q (by rw [show (Int16.ofInt 128).toInt32 = nI 128 by decide +kernel]; exact nI_ge (by omega) (by omega))) (fun _ => ?_)
  refine fst1_ok X (dk rfl) rfl ?_
  refine getf_ok X flX2_11 (dk rfl) H.2.2.1 rfl ?_
  refine fst1_ok X (dk rfl) rfl ?_
  refine ald7v_ok X (dk rfl) x1 (nI_pos (by omega)) (by rw [nI_clamp (by omega)]; exact x3) ?_
  refine br_ok X (dk rfl) rfl (show ((25 : Nat) : Int) + 4 = ((29 : Nat) : Int) from rfl) (fun _ => ?_) (fun q => absurd trivial q)
  exact reti_ok X hr hlk rfl (dk rfl) (⟨rfl, rfl⟩) (Nat.le_of_ble_eq_true rfl) (Nat.le_of_ble_eq_true rfl)
set_option maxHeartbeats 4000000 in
theorem s2_otherAt (h : AH) (H : PRS h pb a1 a2 ps) {k : Nat} {q : Nat × Nat} (hk : ps[k]? = some q) : CT la D cA B0 pa yX2_otherAt cX2_otherAt 2 (some .int) (rmD 0 0 0) [.ref pb, vI k] h (RP (vI q.2) h) := by
  refine CT_of (by decide +kernel) (Nat.le_of_ble_eq_true rfl) ?_
  intro p e s m args below meth c X E hr hlk hnm
  have dk : ∀ {pc : Nat} {q : Instr × Nat}, lkd DX2_otherAt pc = some q → decode cX2_otherAt pc = .ok q := lkd_ok DX2_otherAt_ok
  obtain ⟨xs, ys, x1, x2, x3, y1, y2, y3⟩ := H.one hk
  have hkl := (List.getElem?_eq_some_iff.mp hk).1
  have h128 := H.1
  refine fst1_ok X (dk rfl) rfl ?_
  refine br_ok X (dk rfl) rfl (show ((1 : Nat) : Int) + 27 = ((28 : Nat) : Int) from rfl) (fun q => absurd q (nI_pos (by omega))) (fun _ => ?_)
  iterate 2 refine fst1_ok X (dk rfl) rfl ?_
  refine getf_ok X flX2_18 (dk rfl) H.2.2.1 rfl ?_
  refine br_ok X (dk rfl) rfl (show ((9 : Nat) : Int) + 19 = ((28 : Nat) : Int) from rfl) (fun q => absurd q (nI_ge (by omega) (by omega))) (fun _ => ?_)
  iterate 2 refine fst1_ok X (dk rfl) rfl ?_
  refine br_ok X (dk rfl) rfl (show ((16 : Nat) : Int) + 12 = ((28 : Nat) : Int) from rfl) (fun q => absurd q (by rw [show (Int16.ofInt 128).toInt32 = nI 128 by decide +kernel]; exact nI_ge (by omega) (by omega))) (fun _ => ?_)
  refine fst1_ok X (dk rfl) rfl ?_
  refine getf_ok X flX2_15 (dk rfl) H.2.2.1 rfl ?_
  refine fst1_ok X (dk rfl) rfl ?_
  refine ald7v_ok X (dk rfl) y1 (nI_pos (by omega)) (by rw [nI_clamp (by omega)]; exact y3) ?_
  refine br_ok X (dk rfl) rfl (show ((25 : Nat) : Int) + 4 = ((29 : Nat) : Int) from rfl) (fun _ => ?_) (fun q => absurd trivial q)
  exact reti_ok X hr hlk rfl (dk rfl) (⟨rfl, rfl⟩) (Nat.le_of_ble_eq_true rfl) (Nat.le_of_ble_eq_true rfl)
set_option maxHeartbeats 4000000 in
theorem s2_dropNext (h : AH) {q : Nat × Nat} (H : PRS h pb a1 a2 (ps ++ [q])) : CT la D cA B0 pa yX2_dropNext cX2_dropNext 1 none (rmD 0 0 0) [.ref pb] h (PP pb a1 a2 ps h) := by
  refine CT_of (by decide +kernel) (Nat.le_of_ble_eq_true rfl) ?_
  intro p e s m args below meth c X E hr hlk hnm
  have dk : ∀ {pc : Nat} {q : Instr × Nat}, lkd DX2_dropNext pc = some q → decode cX2_dropNext pc = .ok q := lkd_ok DX2_dropNext_ok
  have h128 := H.1
  rw [List.length_append, List.length_singleton] at h128
  have el : (ps ++ [q]).length = ps.length + 1 := by rw [List.length_append, List.length_singleton]
  have h3 := H.2.2.1
  rw [el] at h3
  refine fst1_ok X (dk rfl) rfl ?_
  refine getf_ok X flX2_18 (dk rfl) h3 rfl ?_
  refine br_ok X (dk rfl) rfl (show ((4 : Nat) : Int) + 13 = ((17 : Nat) : Int) from rfl) (fun q => absurd q (nI_nle (Nat.succ_pos _) (by omega))) (fun _ => ?_)
  iterate 2 refine fst1_ok X (dk rfl) rfl ?_
  refine getf_ok X flX2_18 (dk rfl) h3 rfl ?_
  iterate 2 refine fst1_ok X (dk rfl) rfl ?_
  rw [nI_1', nI_sub (by omega), Nat.add_sub_cancel]
  refine putf_ok X flX2_18 ftX2_2 (Or.inl rfl) rfl rfl (dk rfl) h3 (Nat.le_of_ble_eq_true rfl) ?_
  exact retv_ok X hr hlk (dk rfl) (⟨rfl, H.fewer, (FrP.rf h).set (Or.inl rfl) _⟩) (Nat.le_of_ble_eq_true rfl) (Nat.le_of_ble_eq_true rfl)
set_option maxHeartbeats 8000000 in
theorem s2_add (h : AH) (H : PRS h pb a1 a2 ps) (ha : a1 ≠ a2) {ta tb : Nat} (hpq : ta < 2 ^ 20 ∧ tb < 2 ^ 20) (hl : ps.length < 128) : CT la D cA B0 pa yX2_add cX2_add 3 none (rmD 0 0 0) [.ref pb, vI ta, vI tb] h (PP pb a1 a2 (ps ++ [(ta, tb)]) h) := by
  refine CT_of (by decide +kernel) (Nat.le_of_ble_eq_true rfl) ?_
  intro p e s m args below meth c X E hr hlk hnm
  have dk : ∀ {pc : Nat} {q : Instr × Nat}, lkd DX2_add pc = some q → decode cX2_add pc = .ok q := lkd_ok DX2_add_ok
  obtain ⟨h1, h2, h3, ⟨xs, x1, x2, x3⟩, ys, y1, y2, y3⟩ := H
  refine fst1_ok X (dk rfl) rfl ?_
  refine getf_ok X flX2_18 (dk rfl) h3 rfl ?_
  refine br_ok X (dk rfl) rfl (show ((4 : Nat) : Int) + 43 = ((47 : Nat) : Int) from rfl) (fun q => absurd q (nI_pos (by omega))) (fun _ => ?_)
  refine fst1_ok X (dk rfl) rfl ?_
  refine getf_ok X flX2_18 (dk rfl) h3 rfl ?_
  refine fst1_ok X (dk rfl) rfl ?_
  refine br_ok X (dk rfl) rfl (show ((14 : Nat) : Int) + 33 = ((47 : Nat) : Int) from rfl) (fun q => absurd q (by rw [show (Int16.ofInt 128).toInt32 = nI 128 by decide +kernel]; exact nI_ge (by omega) (by omega))) (fun _ => ?_)
  refine fst1_ok X (dk rfl) rfl ?_
  refine getf_ok X flX2_11 (dk rfl) h3 rfl ?_
  refine fst1_ok X (dk rfl) rfl ?_
  refine getf_ok X flX2_18 (dk rfl) h3 rfl ?_
  refine fst1_ok X (dk rfl) rfl ?_
  refine ast7_ok X (dk rfl) x1 (nI_pos (by omega)) (by rw [nI_clamp (by omega)]; omega) ?_
  rw [nI_clamp (by omega)]
  have g3 : hup h a1 (107, (xs.set ps.length (nI ta)).map Value.int) pb = some (4, [.ref a1, .ref a2, vI ps.length]) := by rw [hup_ne _ _ (k_ne h3 x1 (by decide))]; exact h3
  have gy : hup h a1 (107, (xs.set ps.length (nI ta)).map Value.int) a2 = some (107, ys.map Value.int) := by rw [hup_ne _ _ (Ne.symm ha)]; exact y1
  refine fst1_ok X (dk rfl) rfl ?_
  refine getf_ok X flX2_15 (dk rfl) g3 rfl ?_
  refine fst1_ok X (dk rfl) rfl ?_
  refine getf_ok X flX2_18 (dk rfl) g3 rfl ?_
  refine fst1_ok X (dk rfl) rfl ?_
  refine ast7_ok X (dk rfl) gy (nI_pos (by omega)) (by rw [nI_clamp (by omega)]; omega) ?_
  rw [nI_clamp (by omega)]
  have g4 : hup (hup h a1 (107, (xs.set ps.length (nI ta)).map Value.int)) a2 (107, (ys.set ps.length (nI tb)).map Value.int) pb = some (4, [.ref a1, .ref a2, vI ps.length]) := by rw [hup_ne _ _ (k_ne h3 y1 (by decide))]; exact g3
  iterate 2 refine fst1_ok X (dk rfl) rfl ?_
  refine getf_ok X flX2_18 (dk rfl) g4 rfl ?_
  iterate 2 refine fst1_ok X (dk rfl) rfl ?_
  rw [nI_1', nI_add]
  refine putf_ok X flX2_18 ftX2_2 (Or.inl rfl) rfl rfl (dk rfl) g4 (Nat.le_of_ble_eq_true rfl) ?_
  have el : (ps ++ [(ta, tb)]).length = ps.length + 1 := by rw [List.length_append, List.length_singleton]
  refine retv_ok X hr hlk (dk rfl) (⟨rfl, ⟨by omega, fun z hz => ?_, by rw [el]; exact hup_self _ _ _, ⟨xs.set ps.length (nI ta), ?_, by rw [List.length_set]; exact x2, ?_⟩, ys.set ps.length (nI tb), ?_, by rw [List.length_set]; exact y2, ?_⟩, (((FrP.rf h).set (Or.inr (Or.inl rfl)) _).set (Or.inr (Or.inr rfl)) _).set (Or.inl rfl) _⟩) (Nat.le_of_ble_eq_true rfl) (Nat.le_of_ble_eq_true rfl)
  · rcases List.mem_append.mp hz with z1 | z1
    · exact h2 z z1
    · rw [List.mem_singleton.mp z1]
      exact hpq
  · rw [hup_ne _ _ (k_ne x1 h3 (by decide)), hup_ne _ _ ha, hup_self]
  · rw [el, take_snoc x3 (by omega), List.map_append]
    rfl
  · rw [hup_ne _ _ (k_ne y1 h3 (by decide)), hup_self]
  · rw [el, take_snoc y3 (by omega), List.map_append]
    rfl
/-- pairs of terms at pairs of places -/
def prT (one other : List Nat) (ps : PL2) : List (List Nat × List Nat) := ps.map (fun q => (sub' one q.1, sub' other q.2))
theorem like_iff {ns ms : List Nat} (hn : TW ns) {p0 p2 : Nat} (h0 : p0 < ns.length) (hm : endL 1 (ms.drop p2) = some (tl ms p2)) : ((ns.drop p0).take (tl ns p0) = (ms.drop p2).take (tl ns p0)) ↔ sub' ns p0 = sub' ms p2 := by
  obtain ⟨k1, k2, k3, k4⟩ := subTW hn h0
  have hl : (sub' ns p0).length = tl ns p0 := by
    unfold sub'
    rw [List.length_take, List.length_drop]
    omega
  have h := TW_take (t := sub' ns p0) k4 hm
  rw [List.drop_zero, List.take_length, hl] at h
  exact h
theorem idxP_step {q : List Nat × List Nat} : ∀ {ps : List (List Nat × List Nat)} {k : Nat} {x : List Nat × List Nat}, k ≤ idxP q ps → ps[k]? = some x → (x = q → idxP q ps = k) ∧ (x ≠ q → k + 1 ≤ idxP q ps)
  | [], k, x, h, e => by simp at e
  | y :: r, 0, x, h, e => by
    simp only [List.getElem?_cons_zero, Option.some.injEq] at e
    subst e
    unfold idxP
    exact ⟨fun z => if_pos z, fun z => by rw [if_neg z]; omega⟩
  | y :: r, k + 1, x, h, e => by
    unfold idxP at h ⊢
    by_cases z : y = q
    · rw [if_pos z] at h
      omega
    · rw [if_neg z] at h ⊢
      rw [List.getElem?_cons_succ] at e
      obtain ⟨i1, i2⟩ := idxP_step (q := q) (k := k) (x := x) (by omega) e
      exact ⟨fun z => by rw [i1 z], fun z => by have := i2 z; omega⟩
set_option maxHeartbeats 16000000 in
theorem s3_nameFor (h : AH) (H : PRS h pb a1 a2 ps) (S : TS B Q h F) {sh : Nat} (hs : h sh = some (5, [.ref pb])) (ha : a1 ≠ a2) {i1 : Nat} (h1i : i1 < 52) {one : List Nat} (hN : TN (F i1) one) (wo : TW one) (lo : one.length ≤ 16) {i2 : Nat} (h2i : i2 < 52) {other : List Nat} (hM : TN (F i2) other) (wt : TW other) (lt : other.length ≤ 16) (hpl : ∀ q ∈ ps, q.1 < one.length ∧ q.2 < other.length) (hlt : ps.length < 128) {left right : Nat} (hl1 : left < one.length) (hr1 : right < other.length) : CT la D cA B0 pa yX3_nameFor cX3_nameFor 6 (some .int) (rmD 2 0 0) [.ref sh, .ref (B i1), vI left, .ref (B i2), vI right] h (fun v h' => v = some (vI (idxP (sub' one left, sub' other right) (prT one other ps))) ∧ PRS h' pb a1 a2 (if (idxP (sub' one left, sub' other right) (prT one other ps)) < ps.length then ps else ps ++ [(left, right)]) ∧ FrP pb a1 a2 h h') := by
  refine CT_of (by decide +kernel) (Nat.le_of_ble_eq_true rfl) ?_
  intro p e s m args below meth c X E hr hlk hnm
  have dk : ∀ {pc : Nat} {q : Instr × Nat}, lkd DX3_nameFor pc = some q → decode cX3_nameFor pc = .ok q := lkd_ok DX3_nameFor_ok
  have h128 := H.1
  obtain ⟨m1, m2, m3, m4⟩ := subTW wo hl1
  obtain ⟨n1, n2, n3, n4⟩ := subTW wt hr1
  have lp : (prT one other ps).length = ps.length := by unfold prT; rw [List.length_map]
  have ile := idxP_le (sub' one left, sub' other right) (prT one other ps)
  rw [lp] at ile
  have loop : ∀ (d k : Nat), d = ps.length - k → k ≤ ps.length → k ≤ (idxP (sub' one left, sub' other right) (prT one other ps)) → ∀ l : List (Nat × Value), lsel l [5, 4, 3, 2, 1, 0] = [(5, vI k), (4, vI right), (3, .ref (B i2)), (2, vI left), (1, .ref (B i1)), (0, .ref sh)] → WR p la e (rmD 2 0 0) s m args below meth c D cA B0 6 (fun v h' => v = some (vI (idxP (sub' one left, sub' other right) (prT one other ps))) ∧ PRS h' pb a1 a2 (if (idxP (sub' one left, sub' other right) (prT one other ps)) < ps.length then ps else ps ++ [(left, right)]) ∧ FrP pb a1 a2 h h') 3 l [] h 0 0 := by
    intro d
    induction d with
    | zero =>
      intro k hd hk hi l hl
      have hk2 : k = ps.length := by omega
      have ei : (idxP (sub' one left, sub' other right) (prT one other ps)) = ps.length := by omega
      refine WS.sel [5, 4, 3, 2, 1, 0] hl ?_
      iterate 2 refine fst1_ok X (dk rfl) rfl ?_
      refine getf_ok X flX3_12 (dk rfl) hs rfl ?_
      refine callVR_ok (ci := 4) (T := TX2) (N := 3) (av := []) (r := [vI k]) X E (s2_length h H) lkX2_length mlX3_47 lmX2_length lpX2_length ⟨Nat.le_of_ble_eq_true rfl, Nat.le_of_ble_eq_true rfl⟩ ⟨Nat.le_of_ble_eq_true rfl, Nat.le_of_ble_eq_true rfl⟩ rfl ⟨_, H.2.2.1⟩ (Nat.le_of_ble_eq_true rfl) (dk rfl) ?_
      rintro _ rfl
      refine br_ok X (dk rfl) rfl (show ((12 : Nat) : Int) + 49 = ((61 : Nat) : Int) from rfl) (fun _ => ?_) (fun q => absurd (by rw [hk2]; exact Int32.le_refl _) q)
      refine fst1_ok X (dk rfl) rfl ?_
      refine getf_ok X flX3_12 (dk rfl) hs rfl ?_
      iterate 2 refine fst1_ok X (dk rfl) rfl ?_
      refine callV_ok (ci := 4) (T := TX2) (N := 3) (av := [vI left, vI right]) (r := []) X E (s2_add h H ha (ta := left) (tb := right) ⟨by omega, by omega⟩ hlt) lkX2_add mlX3_58 lmX2_add lpX2_add ⟨Nat.le_of_ble_eq_true rfl, Nat.le_of_ble_eq_true rfl⟩ ⟨Nat.le_of_ble_eq_true rfl, Nat.le_of_ble_eq_true rfl⟩ rfl H.2.2.1 (Nat.le_of_ble_eq_true rfl) (dk rfl) ?_
      rintro _ h1 ⟨rfl, H1, f1⟩
      refine fst1_ok X (dk rfl) rfl ?_
      refine getf_ok X flX3_12 (dk rfl) (f1.keep H.w hs (by decide) (by decide)) rfl ?_
      refine callVR_ok (ci := 4) (T := TX2) (N := 3) (av := []) (r := []) X E (s2_length h1 H1) lkX2_length mlX3_47 lmX2_length lpX2_length ⟨Nat.le_of_ble_eq_true rfl, Nat.le_of_ble_eq_true rfl⟩ ⟨Nat.le_of_ble_eq_true rfl, Nat.le_of_ble_eq_true rfl⟩ rfl ⟨_, H1.2.2.1⟩ (Nat.le_of_ble_eq_true rfl) (dk rfl) ?_
      rintro _ rfl
      iterate 2 refine fst1_ok X (dk rfl) rfl ?_
      rw [List.length_append, List.length_singleton, nI_1', nI_sub (by omega), Nat.add_sub_cancel]
      exact reti_ok X hr hlk rfl (dk rfl) (⟨by rw [ei]; rfl, by rw [ei, if_neg (Nat.lt_irrefl _)]; exact H1, f1⟩) (Nat.le_of_ble_eq_true rfl) (Nat.le_of_ble_eq_true rfl)
    | succ d ih =>
      intro k hd hk hi l hl
      obtain ⟨q, hq⟩ : ∃ q, ps[k]? = some q := ⟨_, List.getElem?_eq_getElem (by omega)⟩
      obtain ⟨b1, b2⟩ := hpl q (List.mem_of_getElem? hq)
      have hq2 : (prT one other ps)[k]? = some (sub' one q.1, sub' other q.2) := by unfold prT; rw [List.getElem?_map, hq]; rfl
      obtain ⟨s1, s2⟩ := idxP_step hi hq2
      obtain ⟨u1, u2, u3, u4⟩ := subTW wo b1
      obtain ⟨v1, v2, v3, v4⟩ := subTW wt b2
      refine WS.sel [5, 4, 3, 2, 1, 0] hl ?_
      iterate 2 refine fst1_ok X (dk rfl) rfl ?_
      refine getf_ok X flX3_12 (dk rfl) hs rfl ?_
      refine callVR_ok (ci := 4) (T := TX2) (N := 3) (av := []) (r := [vI k]) X E (s2_length h H) lkX2_length mlX3_47 lmX2_length lpX2_length ⟨Nat.le_of_ble_eq_true rfl, Nat.le_of_ble_eq_true rfl⟩ ⟨Nat.le_of_ble_eq_true rfl, Nat.le_of_ble_eq_true rfl⟩ rfl ⟨_, H.2.2.1⟩ (Nat.le_of_ble_eq_true rfl) (dk rfl) ?_
      rintro _ rfl
      refine br_ok X (dk rfl) rfl (show ((12 : Nat) : Int) + 49 = ((61 : Nat) : Int) from rfl) (fun q => absurd q (nI_ge (by omega) (by omega))) (fun _ => ?_)
      iterate 2 refine fst1_ok X (dk rfl) rfl ?_
      refine getf_ok X flX3_12 (dk rfl) hs rfl ?_
      refine fst1_ok X (dk rfl) rfl ?_
      refine callVR_ok (ci := 4) (T := TX2) (N := 3) (av := [vI k]) (r := [.ref (B i1)]) X E (s2_oneAt h H hq) lkX2_oneAt mlX3_48 lmX2_oneAt lpX2_oneAt ⟨Nat.le_of_ble_eq_true rfl, Nat.le_of_ble_eq_true rfl⟩ ⟨Nat.le_of_ble_eq_true rfl, Nat.le_of_ble_eq_true rfl⟩ rfl ⟨_, H.2.2.1⟩ (Nat.le_of_ble_eq_true rfl) (dk rfl) ?_
      rintro _ rfl
      iterate 2 refine fst1_ok X (dk rfl) rfl ?_
      refine callVR_ok (ci := 7) (T := TX5) (N := 3) (av := [vI q.1, .ref (B i1), vI left]) (r := []) X E (s5_isLikeAt h S h1i hN h1i hN (p0 := q.1) (p2 := left) (by omega) u1) lkX5_isLikeAt mlX3_51 lmX5_isLikeAt lpX5_isLikeAt ⟨Nat.le_of_ble_eq_true rfl, Nat.le_of_ble_eq_true rfl⟩ ⟨Nat.le_of_ble_eq_true rfl, Nat.le_of_ble_eq_true rfl⟩ rfl ⟨_, (S i1 h1i).2.1⟩ (Nat.le_of_ble_eq_true rfl) (dk rfl) ?_
      rintro _ rfl
      have f3 : Value.int (nI k + Int32.ofInt 1) = vI (k + 1) := congrArg Value.int (by rw [nI_1', nI_add])
      have nxt : ¬ (sub' one q.1 = sub' one left ∧ sub' other q.2 = sub' other right) → ∀ l : List (Nat × Value), lsel l [5, 4, 3, 2, 1, 0] = [(5, vI k), (4, vI right), (3, .ref (B i2)), (2, vI left), (1, .ref (B i1)), (0, .ref sh)] → WR p la e (rmD 2 0 0) s m args below meth c D cA B0 6 (fun v h' => v = some (vI (idxP (sub' one left, sub' other right) (prT one other ps))) ∧ PRS h' pb a1 a2 (if (idxP (sub' one left, sub' other right) (prT one other ps)) < ps.length then ps else ps ++ [(left, right)]) ∧ FrP pb a1 a2 h h') 55 l [] h 0 0 := by
        intro hne l hl
        refine WS.sel [5, 4, 3, 2, 1, 0] hl ?_
        refine fst1_ok X (dk rfl) rfl ?_
        refine br_ok X (dk rfl) rfl (show ((58 : Nat) : Int) + (-55) = ((3 : Nat) : Int) from rfl) (fun _ => ?_) (fun q => absurd trivial q)
        refine WS.sel (l' := [(5, vI (k + 1)), (4, vI right), (3, .ref (B i2)), (2, vI left), (1, .ref (B i1)), (0, .ref sh)]) [5, 4, 3, 2, 1, 0] (by rw [← f3]; rfl) ?_
        exact ih (k + 1) (by omega) (by omega) (s2 (fun z => hne (Prod.mk.inj z))) _ rfl
      by_cases e1 : sub' one q.1 = sub' one left
      · rw [decide_eq_true ((like_iff wo b1 m1).mpr e1)]
        refine br_ok X (dk rfl) rfl (show ((30 : Nat) : Int) + 25 = ((55 : Nat) : Int) from rfl) (fun q => absurd q bI_t) (fun _ => ?_)
        iterate 2 refine fst1_ok X (dk rfl) rfl ?_
        refine getf_ok X flX3_12 (dk rfl) hs rfl ?_
        refine fst1_ok X (dk rfl) rfl ?_
        refine callVR_ok (ci := 4) (T := TX2) (N := 3) (av := [vI k]) (r := [.ref (B i2)]) X E (s2_otherAt h H hq) lkX2_otherAt mlX3_55 lmX2_otherAt lpX2_otherAt ⟨Nat.le_of_ble_eq_true rfl, Nat.le_of_ble_eq_true rfl⟩ ⟨Nat.le_of_ble_eq_true rfl, Nat.le_of_ble_eq_true rfl⟩ rfl ⟨_, H.2.2.1⟩ (Nat.le_of_ble_eq_true rfl) (dk rfl) ?_
        rintro _ rfl
        iterate 2 refine fst1_ok X (dk rfl) rfl ?_
        refine callVR_ok (ci := 7) (T := TX5) (N := 3) (av := [vI q.2, .ref (B i2), vI right]) (r := []) X E (s5_isLikeAt h S h2i hM h2i hM (p0 := q.2) (p2 := right) (by omega) v1) lkX5_isLikeAt mlX3_51 lmX5_isLikeAt lpX5_isLikeAt ⟨Nat.le_of_ble_eq_true rfl, Nat.le_of_ble_eq_true rfl⟩ ⟨Nat.le_of_ble_eq_true rfl, Nat.le_of_ble_eq_true rfl⟩ rfl ⟨_, (S i2 h2i).2.1⟩ (Nat.le_of_ble_eq_true rfl) (dk rfl) ?_
        rintro _ rfl
        by_cases e2 : sub' other q.2 = sub' other right
        · rw [decide_eq_true ((like_iff wt b2 n1).mpr e2)]
          refine br_ok X (dk rfl) rfl (show ((49 : Nat) : Int) + 6 = ((55 : Nat) : Int) from rfl) (fun q => absurd q bI_t) (fun _ => ?_)
          refine fst1_ok X (dk rfl) rfl ?_
          have ei : (idxP (sub' one left, sub' other right) (prT one other ps)) = k := s1 (by rw [e1, e2])
          exact reti_ok X hr hlk rfl (dk rfl) (⟨by rw [ei]; rfl, by rw [ei, if_pos (by omega)]; exact H, FrP.rf h⟩) (Nat.le_of_ble_eq_true rfl) (Nat.le_of_ble_eq_true rfl)
        · rw [decide_eq_false (fun z => e2 ((like_iff wt b2 n1).mp z))]
          refine br_ok X (dk rfl) rfl (show ((49 : Nat) : Int) + 6 = ((55 : Nat) : Int) from rfl) (fun _ => ?_) (fun q => absurd bI_f' q)
          exact nxt (fun z => e2 z.2) _ rfl
      · rw [decide_eq_false (fun z => e1 ((like_iff wo b1 m1).mp z))]
        refine br_ok X (dk rfl) rfl (show ((30 : Nat) : Int) + 25 = ((55 : Nat) : Int) from rfl) (fun _ => ?_) (fun q => absurd bI_f' q)
        exact nxt (fun z => e1 z.1) _ rfl
  iterate 2 refine fst1_ok X (dk rfl) rfl ?_
  exact loop _ 0 rfl (Nat.zero_le _) (Nat.zero_le _) _ rfl
set_option maxHeartbeats 32000000 in
theorem s3_drawInto (h : AH) (Y : LYO B Q) (W : PRW h pb a1 a2) (hA : ∀ i, i < 52 → a1 ≠ Q i ∧ a2 ≠ Q i) (S : TS B Q h F) {sh : Nat} (hs : h sh = some (5, [.ref pb])) (ha : a1 ≠ a2) {i1 : Nat} (h1i : i1 < 52) {one : List Nat} (hN : TN (F i1) one) (wo : TW one) (lo : one.length ≤ 16) {i2 : Nat} (h2i : i2 < 52) {other : List Nat} (hM : TN (F i2) other) (wt : TW other) (lt : other.length ≤ 16) {i3 : Nat} (h3i : i3 < 52) (h13 : i1 ≠ i3) (h23 : i2 ≠ i3) : CT la D cA B0 pa yX3_drawInto cX3_drawInto 8 (some .boolean) (rmD 3 0 0) [.ref sh, .ref (B i1), .ref (B i2), .ref (B i3)] h (fun v h' => v = some (.int (bI (decide ((comL one other).1.length ≤ 8)))) ∧ PRW h' pb a1 a2 ∧ TS B Q h' (upF F i3 ((comL one other).2.map nI, false)) ∧ FrU B Q [pb, a1, a2] h h') := by
  refine CT_of (by decide +kernel) (Nat.le_of_ble_eq_true rfl) ?_
  intro p e s m args below meth c X E hr hlk hnm
  have dk : ∀ {pc : Nat} {q : Instr × Nat}, lkd DX3_drawInto pc = some q → decode cX3_drawInto pc = .ok q := lkd_ok DX3_drawInto_ok
  have hL3 : pb ∈ [pb, a1, a2] ∧ a1 ∈ [pb, a1, a2] ∧ a2 ∈ [pb, a1, a2] := ⟨List.mem_cons_self, List.mem_cons_of_mem _ List.mem_cons_self, List.mem_cons_of_mem _ (List.mem_cons_of_mem _ List.mem_cons_self)⟩
  have hks : ∀ {hh : AH}, FrU B Q [pb, a1, a2] h hh → hh sh = some (5, [.ref pb]) := fun {hh} f => by
    obtain ⟨⟨wv, w1, w2⟩, ⟨xs, x1, x2⟩, ys, y1, y2⟩ := W
    rw [f sh (fun i hi => ⟨k_ne hs (S i hi).2.1 (by decide), (S i hi).2.2.elim (fun _ q => k_ne hs q.1 (by decide))⟩) (fun z => by
      simp only [List.mem_cons, List.not_mem_nil, or_false] at z
      rcases z with z | z | z
      · exact k_ne hs w2 (by decide) z
      · exact k_ne hs x1 (by decide) z
      · exact k_ne hs y1 (by decide) z)]
    exact hs
  have out : ∀ (hh : AH) (ps : PL2) (M : List Nat), TS B Q hh (upF F i3 (M.map nI, false)) → PRS hh pb a1 a2 ps → FrU B Q [pb, a1, a2] h hh → (prT one other ps, M) = comL one other → ∀ l : List (Nat × Value), lsel l [0] = [(0, .ref sh)] → WR p la e (rmD 3 0 0) s m args below meth c D cA B0 8 (fun v h' => v = some (.int (bI (decide ((comL one other).1.length ≤ 8)))) ∧ PRW h' pb a1 a2 ∧ TS B Q h' (upF F i3 ((comL one other).2.map nI, false)) ∧ FrU B Q [pb, a1, a2] h h') 114 l [] hh 0 0 := by
    intro hh ps M S1 H1 f1 eF l hl
    have h128 := H1.1
    have lp : (comL one other).1.length = ps.length := by rw [← eF]; unfold prT; rw [List.length_map]
    refine WS.sel [0] hl ?_
    refine fst1_ok X (dk rfl) rfl ?_
    refine getf_ok X flX3_12 (dk rfl) (hks f1) rfl ?_
    refine callVR_ok (ci := 4) (T := TX2) (N := 3) (av := []) (r := []) X E (s2_length hh H1) lkX2_length mlX3_47 lmX2_length lpX2_length ⟨Nat.le_of_ble_eq_true rfl, Nat.le_of_ble_eq_true rfl⟩ ⟨Nat.le_of_ble_eq_true rfl, Nat.le_of_ble_eq_true rfl⟩ rfl ⟨_, H1.2.2.1⟩ (Nat.le_of_ble_eq_true rfl) (dk rfl) ?_
    rintro _ rfl
    refine fst1_ok X (dk rfl) rfl ?_
    have fin : ∀ (bb : Bool), bb = decide ((comL one other).1.length ≤ 8) → ∀ l : List (Nat × Value), WR p la e (rmD 3 0 0) s m args below meth c D cA B0 8 (fun v h' => v = some (.int (bI (decide ((comL one other).1.length ≤ 8)))) ∧ PRW h' pb a1 a2 ∧ TS B Q h' (upF F i3 ((comL one other).2.map nI, false)) ∧ FrU B Q [pb, a1, a2] h h') 131 l [.int (bI bb)] hh 0 0 := by
      intro bb hbb l
      exact reti_ok X hr hlk (bI_n bb) (dk rfl) ⟨by rw [hbb], H1.w, by rw [show (comL one other).2 = M by rw [← eF]]; exact S1, f1⟩ (Nat.le_of_ble_eq_true rfl) (Nat.le_of_ble_eq_true rfl)
    by_cases h8 : ps.length ≤ 8
    · refine br_ok X (dk rfl) rfl (show ((123 : Nat) : Int) + 7 = ((130 : Nat) : Int) from rfl) (fun q => absurd q (fun z => by rw [nI_8'] at z; exact absurd ((nI_ltI (by omega) (by omega)).mp z) (by omega))) (fun _ => ?_)
      refine fst1_ok X (dk rfl) rfl ?_
      refine br_ok X (dk rfl) rfl (show ((127 : Nat) : Int) + 4 = ((131 : Nat) : Int) from rfl) (fun _ => ?_) (fun q => absurd trivial q)
      exact fin true (by rw [lp, decide_eq_true h8]) _
    · refine br_ok X (dk rfl) rfl (show ((123 : Nat) : Int) + 7 = ((130 : Nat) : Int) from rfl) (fun _ => ?_) (fun q => absurd (by rw [nI_8']; exact (nI_ltI (by omega) (by omega)).mpr (by omega)) q)
      refine fst1_ok X (dk rfl) rfl ?_
      exact fin false (by rw [lp, decide_eq_false h8]) _
  have loop : ∀ (n k a b nd : Nat) (ps : PL2) (M : List Nat) (hh : AH), n + k = 16 → ps.length ≤ k → M.length = k → one.length ≤ n + a → CI one other a b (prT one other ps) M nd → (∀ q ∈ ps, q.1 < one.length ∧ q.2 < other.length) → comF one other n a b (prT one other ps) M = comL one other → TS B Q hh (upF F i3 (M.map nI, false)) → PRS hh pb a1 a2 ps → FrU B Q [pb, a1, a2] h hh → ∀ l : List (Nat × Value), lsel l [6, 5, 4, 3, 2, 1, 0] = [(6, vI k), (5, vI b), (4, vI a), (3, .ref (B i3)), (2, .ref (B i2)), (1, .ref (B i1)), (0, .ref sh)] → WR p la e (rmD 3 0 0) s m args below meth c D cA B0 8 (fun v h' => v = some (.int (bI (decide ((comL one other).1.length ≤ 8)))) ∧ PRW h' pb a1 a2 ∧ TS B Q h' (upF F i3 ((comL one other).2.map nI, false)) ∧ FrU B Q [pb, a1, a2] h h') 20 l [] hh 0 0 := by
    intro n
    induction n with
    | zero =>
      intro k a b nd ps M hh hn hp hM2 hna ci hpl eF S1 H1 f1 l hl
      have hk : k = 16 := by omega
      refine WS.sel [6, 5, 4, 3, 2, 1, 0] hl ?_
      iterate 2 refine fst1_ok X (dk rfl) rfl ?_
      refine br_ok X (dk rfl) rfl (show ((24 : Nat) : Int) + 90 = ((114 : Nat) : Int) from rfl) (fun _ => ?_) (fun q => absurd (by rw [hk, nI_16]; exact Int32.le_refl _) q)
      exact out hh ps M S1 H1 f1 eF _ rfl
    | succ n ih =>
      intro k a b nd ps M hh hn hp hM2 hna ci hpl eF S1 H1 f1 l hl
      have e1 : upF F i3 (M.map nI, false) i1 = F i1 := upF_ne _ _ h13
      have e2 : upF F i3 (M.map nI, false) i2 = F i2 := upF_ne _ _ h23
      have hN1 : TN (upF F i3 (M.map nI, false) i1) one := by rw [e1]; exact hN
      have hM1 : TN (upF F i3 (M.map nI, false) i2) other := by rw [e2]; exact hM
      refine WS.sel [6, 5, 4, 3, 2, 1, 0] hl ?_
      iterate 2 refine fst1_ok X (dk rfl) rfl ?_
      refine br_ok X (dk rfl) rfl (show ((24 : Nat) : Int) + 90 = ((114 : Nat) : Int) from rfl) (fun q => absurd q (by rw [nI_16]; exact nI_ge (by omega) (by omega))) (fun _ => ?_)
      iterate 2 refine fst1_ok X (dk rfl) rfl ?_
      refine callVR_ok (ci := 7) (T := TX5) (N := 3) (av := []) (r := [vI a]) X E (s5_length hh S1 h1i) lkX5_length mlX3_24 lmX5_length lpX5_length ⟨Nat.le_of_ble_eq_true rfl, Nat.le_of_ble_eq_true rfl⟩ ⟨Nat.le_of_ble_eq_true rfl, Nat.le_of_ble_eq_true rfl⟩ rfl ⟨_, (S1 i1 h1i).2.1⟩ (Nat.le_of_ble_eq_true rfl) (dk rfl) ?_
      rintro _ rfl
      rw [e1, hN.len]
      have c3 := ci.2.2.1
      have c4 := ci.2.2.2.1
      rcases Nat.lt_or_ge a one.length with hal | hal
      · refine br_ok X (dk rfl) rfl (show ((33 : Nat) : Int) + 81 = ((114 : Nat) : Int) from rfl) (fun q => absurd q (nI_ge (by omega) (by omega))) (fun _ => ?_)
        iterate 2 refine fst1_ok X (dk rfl) rfl ?_
        obtain ⟨x, hx⟩ : ∃ x, one[a]? = some x := ⟨_, List.getElem?_eq_getElem hal⟩
        have hok := hN.2 x (List.mem_of_getElem? hx)
        have hxx := hok.lt
        refine callVR_ok (ci := 7) (T := TX5) (N := 3) (av := [vI a]) (r := []) X E (s5_letterAt hh S1 h1i (nI a)) lkX5_letterAt mlX3_28 lmX5_letterAt lpX5_letterAt ⟨Nat.le_of_ble_eq_true rfl, Nat.le_of_ble_eq_true rfl⟩ ⟨Nat.le_of_ble_eq_true rfl, Nat.le_of_ble_eq_true rfl⟩ rfl ⟨_, (S1 i1 h1i).2.1⟩ (Nat.le_of_ble_eq_true rfl) (dk rfl) ?_
        rintro _ rfl
        rw [hN1.lt hx (by omega)]
        iterate 2 refine fst1_ok X (dk rfl) rfl ?_
        refine callNR_ok (av := [vI x]) (r := []) X E (s6_isHead hh (x := x) (by omega)) lkX6_isHead mnX3_32 lsX6_isHead ⟨Nat.le_of_ble_eq_true rfl, Nat.le_of_ble_eq_true rfl⟩ ⟨Nat.le_of_ble_eq_true rfl, Nat.le_of_ble_eq_true rfl⟩ (Nat.le_of_ble_eq_true rfl) (dk rfl) ?_
        rintro _ rfl
        obtain ⟨hbl, -, -, -, -, -, -, -, -, -, -, nd2, ci2⟩ := CI_name ci wo wt lo lt hal
        obtain ⟨y, hy⟩ : ∃ y, other[b]? = some y := ⟨_, List.getElem?_eq_getElem hbl⟩
        have hyx := (hM.2 y (List.mem_of_getElem? hy)).lt
        unfold comF at eF
        rw [hx, hy] at eF
        replace eF : (if x = y ∧ 10 ≤ x then comF one other n (a + 1) (b + 1) (prT one other ps) (M ++ [x]) else comF one other n (a + tl one a) (b + tl other b) (if idxP (sub' one a, sub' other b) (prT one other ps) < (prT one other ps).length then prT one other ps else prT one other ps ++ [(sub' one a, sub' other b)]) (M ++ [idxP (sub' one a, sub' other b) (prT one other ps)])) = comL one other := eF
        have f3 : Value.int (nI k + Int32.ofInt 1) = vI (k + 1) := congrArg Value.int (by rw [nI_1', nI_add])
        have fa : Value.int (nI a + Int32.ofInt 1) = vI (a + 1) := congrArg Value.int (by rw [nI_1', nI_add])
        have fb : Value.int (nI b + Int32.ofInt 1) = vI (b + 1) := congrArg Value.int (by rw [nI_1', nI_add])
        have hr3 := rmI_ge i3
        have eadd : ∀ z : Nat, addC (rmI i3) (upF F i3 (M.map nI, false) i3) (nI z) = ((M ++ [z]).map nI, false) := fun z => by
          rw [upF_self]
          unfold addC
          rw [if_pos (by show (M.map nI).length < rmI i3; rw [List.length_map]; omega), List.map_append]
          rfl
        have nxt : ∀ (a b nd : Nat) (ps : PL2) (z : Nat) (h2 : AH), ps.length ≤ k + 1 → one.length ≤ n + a → CI one other a b (prT one other ps) (M ++ [z]) nd → (∀ q ∈ ps, q.1 < one.length ∧ q.2 < other.length) → comF one other n a b (prT one other ps) (M ++ [z]) = comL one other → TS B Q h2 (upF F i3 ((M ++ [z]).map nI, false)) → PRS h2 pb a1 a2 ps → FrU B Q [pb, a1, a2] h h2 → ∀ l : List (Nat × Value), lsel l [6, 5, 4, 3, 2, 1, 0] = [(6, vI k), (5, vI b), (4, vI a), (3, .ref (B i3)), (2, .ref (B i2)), (1, .ref (B i1)), (0, .ref sh)] → WR p la e (rmD 3 0 0) s m args below meth c D cA B0 8 (fun v h' => v = some (.int (bI (decide ((comL one other).1.length ≤ 8)))) ∧ PRW h' pb a1 a2 ∧ TS B Q h' (upF F i3 ((comL one other).2.map nI, false)) ∧ FrU B Q [pb, a1, a2] h h') 108 l [] h2 0 0 := by
          intro a b nd ps z h2 g1 g2 g3 g4 g5 g6 g7 g8 l hl
          refine WS.sel [6, 5, 4, 3, 2, 1, 0] hl ?_
          refine fst1_ok X (dk rfl) rfl ?_
          refine br_ok X (dk rfl) rfl (show ((111 : Nat) : Int) + (-91) = ((20 : Nat) : Int) from rfl) (fun _ => ?_) (fun q => absurd trivial q)
          refine WS.sel (l' := [(6, vI (k + 1)), (5, vI b), (4, vI a), (3, .ref (B i3)), (2, .ref (B i2)), (1, .ref (B i1)), (0, .ref sh)]) [6, 5, 4, 3, 2, 1, 0] (by rw [← f3]; rfl) ?_
          exact ih (k + 1) a b nd ps (M ++ [z]) h2 (by omega) g1 (by rw [List.length_append, List.length_singleton]; omega) g2 g3 g4 g5 g6 g7 g8 _ rfl
        have name : ¬ (x = y ∧ 10 ≤ x) → ∀ l : List (Nat × Value), lsel l [6, 5, 4, 3, 2, 1, 0] = [(6, vI k), (5, vI b), (4, vI a), (3, .ref (B i3)), (2, .ref (B i2)), (1, .ref (B i1)), (0, .ref sh)] → WR p la e (rmD 3 0 0) s m args below meth c D cA B0 8 (fun v h' => v = some (.int (bI (decide ((comL one other).1.length ≤ 8)))) ∧ PRW h' pb a1 a2 ∧ TS B Q h' (upF F i3 ((comL one other).2.map nI, false)) ∧ FrU B Q [pb, a1, a2] h h') 78 l [] hh 0 0 := by
          intro hne l hl
          rw [if_neg hne] at eF
          obtain ⟨m1, m2, m3, m4⟩ := subTW wo hal
          obtain ⟨n1, n2, n3, n4⟩ := subTW wt hbl
          refine WS.sel [6, 5, 4, 3, 2, 1, 0] hl ?_
          iterate 6 refine fst1_ok X (dk rfl) rfl ?_
          refine callV_ok (ci := 5) (T := TX3) (N := 1) (av := [.ref (B i1), vI a, .ref (B i2), vI b]) (r := [.ref (B i3)]) X E (s3_nameFor hh H1 S1 (hks f1) ha h1i hN1 wo lo h2i hM1 wt lt hpl (by omega) hal hbl) lkX3_nameFor mlX3_40 lmX3_nameFor lpX3_nameFor ⟨Nat.le_of_ble_eq_true rfl, Nat.le_of_ble_eq_true rfl⟩ ⟨Nat.le_of_ble_eq_true rfl, Nat.le_of_ble_eq_true rfl⟩ rfl (hks f1) (Nat.le_of_ble_eq_true rfl) (dk rfl) ?_
          rintro _ h2 ⟨rfl, H2, f2⟩
          have S2 := S1.frPw f2 H1.w hA
          refine callVT_ok (ci := 7) (T := TX5) (N := 3) (av := [vI (idxP (sub' one a, sub' other b) (prT one other ps))]) (r := []) X E (s5_add h2 Y S2 h3i (nI (idxP (sub' one a, sub' other b) (prT one other ps)))) lkX5_add mlX3_36 lmX5_add lpX5_add ⟨Nat.le_of_ble_eq_true rfl, Nat.le_of_ble_eq_true rfl⟩ ⟨Nat.le_of_ble_eq_true rfl, Nat.le_of_ble_eq_true rfl⟩ rfl (S2 i3 h3i).2.1 (Nat.le_of_ble_eq_true rfl) (dk rfl) (fun h3 S3 f3 => ?_)
          rw [eadd, upF_up] at S3
          have hN3 : ∀ {z : TC}, TN (upF F i3 z i1) one := fun {z} => by rw [upF_ne _ _ h13]; exact hN
          have hM3 : ∀ {z : TC}, TN (upF F i3 z i2) other := fun {z} => by rw [upF_ne _ _ h23]; exact hM
          iterate 2 refine fst1_ok X (dk rfl) rfl ?_
          refine callVR_ok (ci := 7) (T := TX5) (N := 3) (av := [vI a]) (r := []) X E (s5_endOf h3 S3 h1i hN3 m1) lkX5_endOf mlX3_44 lmX5_endOf lpX5_endOf ⟨Nat.le_of_ble_eq_true rfl, Nat.le_of_ble_eq_true rfl⟩ ⟨Nat.le_of_ble_eq_true rfl, Nat.le_of_ble_eq_true rfl⟩ rfl ⟨_, (S3 i1 h1i).2.1⟩ (Nat.le_of_ble_eq_true rfl) (dk rfl) ?_
          rintro _ rfl
          iterate 3 refine fst1_ok X (dk rfl) rfl ?_
          refine callVR_ok (ci := 7) (T := TX5) (N := 3) (av := [vI b]) (r := []) X E (s5_endOf h3 S3 h2i hM3 n1) lkX5_endOf mlX3_44 lmX5_endOf lpX5_endOf ⟨Nat.le_of_ble_eq_true rfl, Nat.le_of_ble_eq_true rfl⟩ ⟨Nat.le_of_ble_eq_true rfl, Nat.le_of_ble_eq_true rfl⟩ rfl ⟨_, (S3 i2 h2i).2.1⟩ (Nat.le_of_ble_eq_true rfl) (dk rfl) ?_
          rintro _ rfl
          refine fst1_ok X (dk rfl) rfl ?_
          have ep : prT one other (if idxP (sub' one a, sub' other b) (prT one other ps) < ps.length then ps else ps ++ [(a, b)]) = (if idxP (sub' one a, sub' other b) (prT one other ps) < (prT one other ps).length then prT one other ps else prT one other ps ++ [(sub' one a, sub' other b)]) := by
            rw [show (prT one other ps).length = ps.length by unfold prT; rw [List.length_map]]
            split
            · rfl
            · unfold prT
              rw [List.map_append]
              rfl
          rw [← ep] at eF ci2
          exact nxt _ _ nd2 _ _ h3 (by split <;> (try rw [List.length_append, List.length_singleton]) <;> omega) (by omega) ci2 (by
            intro q hq
            split at hq
            · exact hpl q hq
            · rcases List.mem_append.mp hq with z | z
              · exact hpl q z
              · rw [List.mem_singleton.mp z]
                exact ⟨hal, hbl⟩) eF S3 (H2.frT S2 hA f3) ((f1.trans (f2.u hL3)).trans (f3.u _)) _ rfl
        by_cases h10 : 10 ≤ x
        · rw [decide_eq_true (p := 10 ≤ x ∧ x < 18) ⟨h10, hxx⟩]
          refine br_ok X (dk rfl) rfl (show ((49 : Nat) : Int) + 29 = ((78 : Nat) : Int) from rfl) (fun q => absurd q bI_t) (fun _ => ?_)
          iterate 3 refine fst1_ok X (dk rfl) rfl ?_
          refine callVR_ok (ci := 7) (T := TX5) (N := 3) (av := [vI b]) (r := [vI x]) X E (s5_letterAt hh S1 h2i (nI b)) lkX5_letterAt mlX3_28 lmX5_letterAt lpX5_letterAt ⟨Nat.le_of_ble_eq_true rfl, Nat.le_of_ble_eq_true rfl⟩ ⟨Nat.le_of_ble_eq_true rfl, Nat.le_of_ble_eq_true rfl⟩ rfl ⟨_, (S1 i2 h2i).2.1⟩ (Nat.le_of_ble_eq_true rfl) (dk rfl) ?_
          rintro _ rfl
          rw [hM1.lt hy (by omega)]
          by_cases hxy : x = y
          · rw [if_pos ⟨hxy, h10⟩] at eF
            obtain ⟨nd2, ci2⟩ := CI_head ci hx (by rw [hxy]; exact hy) h10 hxx
            refine br_ok X (dk rfl) rfl (show ((60 : Nat) : Int) + 18 = ((78 : Nat) : Int) from rfl) (fun q => absurd (by rw [hxy]) q) (fun _ => ?_)
            iterate 2 refine fst1_ok X (dk rfl) rfl ?_
            refine callVT_ok (ci := 7) (T := TX5) (N := 3) (av := [vI x]) (r := []) X E (s5_add hh Y S1 h3i (nI x)) lkX5_add mlX3_36 lmX5_add lpX5_add ⟨Nat.le_of_ble_eq_true rfl, Nat.le_of_ble_eq_true rfl⟩ ⟨Nat.le_of_ble_eq_true rfl, Nat.le_of_ble_eq_true rfl⟩ rfl (S1 i3 h3i).2.1 (Nat.le_of_ble_eq_true rfl) (dk rfl) (fun h2 S2 f2 => ?_)
            rw [eadd, upF_up] at S2
            iterate 2 refine fst1_ok X (dk rfl) rfl ?_
            refine br_ok X (dk rfl) rfl (show ((75 : Nat) : Int) + 33 = ((108 : Nat) : Int) from rfl) (fun _ => ?_) (fun q => absurd trivial q)
            refine WS.sel (l' := [(6, vI k), (5, vI (b + 1)), (4, vI (a + 1)), (3, .ref (B i3)), (2, .ref (B i2)), (1, .ref (B i1)), (0, .ref sh)]) [6, 5, 4, 3, 2, 1, 0] (by rw [← fa, ← fb]; rfl) ?_
            exact nxt (a + 1) (b + 1) nd2 ps x h2 (by omega) (by omega) ci2 hpl eF S2 (H1.frT S1 hA f2) (f1.trans (f2.u _)) _ rfl
          · refine br_ok X (dk rfl) rfl (show ((60 : Nat) : Int) + 18 = ((78 : Nat) : Int) from rfl) (fun _ => ?_) (fun q => absurd (fun z => hxy (nI_inj (by omega) (by omega) z)) q)
            exact name (fun z => hxy z.1) _ rfl
        · rw [decide_eq_false (p := 10 ≤ x ∧ x < 18) (fun z => h10 z.1)]
          refine br_ok X (dk rfl) rfl (show ((49 : Nat) : Int) + 29 = ((78 : Nat) : Int) from rfl) (fun _ => ?_) (fun q => absurd bI_f' q)
          exact name (fun z => h10 z.2) _ rfl
      · refine br_ok X (dk rfl) rfl (show ((33 : Nat) : Int) + 81 = ((114 : Nat) : Int) from rfl) (fun _ => ?_) (fun q => absurd ((nI_leI (by omega) (by omega)).mpr hal) q)
        unfold comF at eF
        rw [List.getElem?_eq_none hal] at eF
        exact out hh ps M S1 H1 f1 eF _ rfl
  refine fst1_ok X (dk rfl) rfl ?_
  refine getf_ok X flX3_12 (dk rfl) hs rfl ?_
  refine callV_ok (ci := 4) (T := TX2) (N := 3) (av := []) (r := []) X E (s2_empty h W) lkX2_empty mlX3_18 lmX2_empty lpX2_empty ⟨Nat.le_of_ble_eq_true rfl, Nat.le_of_ble_eq_true rfl⟩ ⟨Nat.le_of_ble_eq_true rfl, Nat.le_of_ble_eq_true rfl⟩ rfl W.1.choose_spec.2 (Nat.le_of_ble_eq_true rfl) (dk rfl) ?_
  rintro _ h1 ⟨rfl, H1, f1⟩
  have S1 := S.frPw f1 W hA
  refine fst1_ok X (dk rfl) rfl ?_
  refine callVT_ok (ci := 7) (T := TX5) (N := 3) (av := []) (r := []) X E (s5_empty h1 Y S1 h3i) lkX5_empty mlX3_21 lmX5_empty lpX5_empty ⟨Nat.le_of_ble_eq_true rfl, Nat.le_of_ble_eq_true rfl⟩ ⟨Nat.le_of_ble_eq_true rfl, Nat.le_of_ble_eq_true rfl⟩ rfl (S1 i3 h3i).2.1 (Nat.le_of_ble_eq_true rfl) (dk rfl) (fun h2 S2 f2 => ?_)
  iterate 6 refine fst1_ok X (dk rfl) rfl ?_
  exact loop 16 0 0 0 1 [] [] h2 rfl (Nat.zero_le _) rfl lo (CI_0 wo wt) (fun q hq => by simp at hq) rfl S2 (H1.frT S1 hA f2) ((f1.u hL3).trans (f2.u _)) _ rfl
end S13
end Uc13shape
section Uc14mach
/-! two terms made alike by steps: pairs on a stack do what the reference's calls do -/
/-- the pairs of the parts from the j-th on -/
def kdL (X : List Nat) (a b : Nat) : Nat → Nat → PL2
  | 0, _ => []
  | k + 1, j => (ko X a j, ko X b j) :: kdL X a b k (j + 1)
theorem kdL_len (X : List Nat) (a b : Nat) : ∀ k j, (kdL X a b k j).length = k
  | 0, _ => rfl
  | k + 1, j => by
    show (kdL X a b k (j + 1)).length + 1 = k + 1
    rw [kdL_len X a b k (j + 1)]
/-- what a step does with the next pair: what stands for names, how it ends, what waits ahead of the others -/
def stepM (X : List Nat) (S : SS) (p q : Nat) : SS × Nat × PL2 :=
  if gl X (dp X S p) < 10 then
    (if gl X (dp X S q) < 10 then (if gl X (dp X S q) < gl X (dp X S p) then (upS S (gl X (dp X S p)) (dp X S q), 0, []) else if gl X (dp X S p) < gl X (dp X S q) then (upS S (gl X (dp X S q)) (dp X S p), 0, []) else (S, 0, []))
     else (if isWi (smO X S) (gl X (dp X S p)) (sub' X (dp X S q)) then (S, 2, []) else (upS S (gl X (dp X S p)) (dp X S q), 0, [])))
  else if gl X (dp X S q) < 10 then (if isWi (smO X S) (gl X (dp X S q)) (sub' X (dp X S p)) then (S, 2, []) else (upS S (gl X (dp X S q)) (dp X S p), 0, []))
  else if gl X (dp X S p) = gl X (dp X S q) then (S, 0, kdL X (dp X S p) (dp X S q) (ga X (dp X S p)) 0) else (S, 1, [])
/-- steps until no pair waits, or it can't be: what stands, how it ends, how many steps -/
def runM (X : List Nat) : Nat → SS → Nat → PL2 → Option (SS × Nat × Nat)
  | _, S, m, [] => some (S, 0, m)
  | 0, _, _, _ :: _ => none
  | n + 1, S, m, z :: r => if 126 ≤ r.length then none else
      if (stepM X S z.1 z.2).2.1 = 0 then runM X n (stepM X S z.1 z.2).1 (m + 1) ((stepM X S z.1 z.2).2.2 ++ r) else some ((stepM X S z.1 z.2).1, (stepM X S z.1 z.2).2.1, m + 1)
theorem runM_nil (X : List Nat) (n : Nat) (S : SS) (m : Nat) : runM X n S m [] = some (S, 0, m) := by cases n <;> rfl
theorem runM_cons (X : List Nat) (n : Nat) (S : SS) (m p q : Nat) (r : PL2) (h : r.length < 126) : runM X (n + 1) S m ((p, q) :: r) =
    if (stepM X S p q).2.1 = 0 then runM X n (stepM X S p q).1 (m + 1) ((stepM X S p q).2.2 ++ r) else some ((stepM X S p q).1, (stepM X S p q).2.1, m + 1) := by
  rw [runM, if_neg (by omega)]
theorem goOnF_w (f : Nat) : ∀ (k : Nat) (a b : List Nat) (i j : Nat) (sm : SM) (m w : Nat) (G : GS), 0 < w → goOnF (goF f) k a b i j sm m w = some G → G.1 = sm ∧ G.2.1 = m ∧ G.2.2.1 = w := by
  intro k
  induction k with
  | zero =>
    intro a b i j sm m w G hw h
    simp only [goOnF, Option.some.injEq] at h
    subst h
    exact ⟨rfl, rfl, rfl⟩
  | succ k ih =>
    intro a b i j sm m w G hw h
    cases f with
    | zero =>
      rw [goOnF] at h
      simp [goF] at h
    | succ f =>
      rw [goOnF, goF_skip f _ _ sm m hw] at h
      dsimp only at h
      cases e : goOnF (goF (f + 1)) k a b (i + tl a i) (j + tl b j) sm m w with
      | none => rw [e] at h; cases h
      | some G2 =>
        rw [e] at h
        have i2 := ih a b _ _ sm m w G2 hw e
        obtain ⟨s2, m2, w2, c2, n2⟩ := G2
        simp only [Option.some.injEq] at h
        subst h
        exact i2
def GoS (X : List Nat) (f : Nat) : Prop := ∀ (S : SS) (p q m : Nat) (G : GS), S1 X S → p < X.length → q < X.length → goF f (sub' X p) (sub' X q) (smO X S) m 0 = some G →
  ∃ S', S1 X S' ∧ G.1 = smO X S' ∧ m ≤ G.2.1 ∧ 2 * G.2.1 ≤ 2 * m + G.2.2.2.1 + 2 ∧ ∀ (r : PL2) (n : Nat), r.length + 2 * f ≤ 126 → runM X (n + (G.2.1 - m)) S m ((p, q) :: r) = if G.2.2.1 = 0 then runM X n S' G.2.1 r else some (S', G.2.2.1, G.2.1)
theorem goOn_sim {X : List Nat} (hX : BX X) {f : Nat} (IH : GoS X f) {a b : Nat} (ha : a < X.length) (hb : b < X.length) (hg : gl X a = gl X b) : ∀ (k j : Nat) (S : SS) (m : Nat) (G : GS), S1 X S → j + k = ga X a → goOnF (goF f) k (sub' X a) (sub' X b) (ko X a j - a) (ko X b j - b) (smO X S) m 0 = some G →
    ∃ S', S1 X S' ∧ G.1 = smO X S' ∧ m ≤ G.2.1 ∧ 2 * G.2.1 ≤ 2 * m + G.2.2.2.1 ∧ ∀ (r : PL2) (n : Nat), r.length + 2 * f + 2 ≤ 126 → runM X (n + (G.2.1 - m)) S m (kdL X a b k j ++ r) = if G.2.2.1 = 0 then runM X n S' G.2.1 r else some (S', G.2.2.1, G.2.1) := by
  have hgb : ga X b = ga X a := (ga_eq hg).symm
  have h3 := ga_le hX ha
  intro k
  induction k with
  | zero =>
    intro j S m G hS hj h
    simp only [goOnF, Option.some.injEq] at h
    subst h
    refine ⟨S, hS, rfl, Nat.le_refl _, by dsimp only; omega, fun r n hr => ?_⟩
    rw [if_pos rfl]
    show runM X (n + (m - m)) S m ([] ++ r) = runM X n S m r
    rw [Nat.sub_self, List.nil_append, Nat.add_zero]
  | succ k ih =>
    intro j S m G hS hj h
    obtain ⟨ka1, ka2, ka3, ka4, ka5⟩ := ko_mono hX ha (j := j) (by omega)
    obtain ⟨kb1, kb2, kb3, kb4, kb5⟩ := ko_mono hX hb (j := j) (by omega)
    obtain ⟨ta, sa⟩ := sub_sub hX ha (z := ko X a j) (by omega) ka2
    obtain ⟨tb, sb⟩ := sub_sub hX hb (z := ko X b j) (by omega) kb2
    rw [goOnF, ta, tb, sa, sb] at h
    cases e1 : goF f (sub' X (ko X a j)) (sub' X (ko X b j)) (smO X S) m 0 with
    | none => rw [e1] at h; cases h
    | some G1 =>
      obtain ⟨S1', q1, q2, q3, q4, q5⟩ := IH S _ _ m G1 hS ka5 kb5 e1
      obtain ⟨s1, m1, w1, c1, n1⟩ := G1
      rw [e1] at h
      dsimp only at h q2 q3 q4 q5
      subst q2
      rw [show ko X a j - a + tl X (ko X a j) = ko X a (j + 1) - a by show _ = ko X a j + tl X (ko X a j) - a; omega, show ko X b j - b + tl X (ko X b j) = ko X b (j + 1) - b by show _ = ko X b j + tl X (ko X b j) - b; omega] at h
      cases e2 : goOnF (goF f) k (sub' X a) (sub' X b) (ko X a (j + 1) - a) (ko X b (j + 1) - b) (smO X S1') m1 w1 with
      | none => rw [e2] at h; cases h
      | some G2 =>
        rcases Nat.eq_zero_or_pos w1 with hw | hw
        · subst hw
          obtain ⟨S2, z1, z2, z3, z4, z5⟩ := ih (j + 1) S1' m1 G2 q1 (by omega) e2
          obtain ⟨s2, m2, w2, c2, n2⟩ := G2
          rw [e2] at h
          simp only [Option.some.injEq] at h
          subst h
          dsimp only at z2 z3 z4 z5 ⊢
          refine ⟨S2, z1, z2, by omega, by omega, fun r n hr => ?_⟩
          show runM X (n + (m2 - m)) S m ((ko X a j, ko X b j) :: (kdL X a b k (j + 1) ++ r)) = _
          rw [show n + (m2 - m) = (n + (m2 - m1)) + (m1 - m) by omega, q5 (kdL X a b k (j + 1) ++ r) (n + (m2 - m1)) (by rw [List.length_append, kdL_len]; omega), if_pos rfl]
          exact z5 r n hr
        · have z := goOnF_w f k _ _ _ _ _ _ _ G2 hw e2
          obtain ⟨s2, m2, w2, c2, n2⟩ := G2
          rw [e2] at h
          simp only [Option.some.injEq] at h
          subst h
          dsimp only at z ⊢
          obtain ⟨rfl, rfl, rfl⟩ := z
          refine ⟨S1', q1, rfl, q3, by omega, fun r n hr => ?_⟩
          show runM X (n + (m2 - m)) S m ((ko X a j, ko X b j) :: (kdL X a b k (j + 1) ++ r)) = _
          rw [q5 (kdL X a b k (j + 1) ++ r) n (by rw [List.length_append, kdL_len]; omega), if_neg (by omega), if_neg (by omega)]
theorem run1 {X : List Nat} {S S' : SS} {p q w m n : Nat} {r : PL2} (h : stepM X S p q = (S', w, [])) (hr : r.length < 126) : runM X (n + (m + 1 - m)) S m ((p, q) :: r) = if w = 0 then runM X n S' (m + 1) r else some (S', w, m + 1) := by
  rw [show n + (m + 1 - m) = n + 1 by omega, runM_cons X n S m p q r hr, h]
  rfl
theorem go_sim {X : List Nat} (hX : BX X) : ∀ f, GoS X f := by
  intro f
  induction f with
  | zero =>
    intro S p q m G hS hp hq h
    rw [goF] at h
    cases h
  | succ f IH =>
    intro S p q m G hS hp hq h
    obtain ⟨d1, d2, d3⟩ := dp_ok hX hS hp
    obtain ⟨d4, d5, d6⟩ := dp_ok hX hS hq
    obtain ⟨z0, hz⟩ : ∃ z0, z0 = stepM X S p q := ⟨_, rfl⟩
    have st := hz
    unfold stepM at st
    have s1 := sub_cons hX d3
    have s2 := sub_cons hX d6
    rw [s1] at d1
    rw [s2] at d4
    rw [goF_0 f _ _ _ m d1 d4] at h
    by_cases hx : gl X (dp X S p) < 10
    · have hx8 := gl_8 hX d3 hx
      rw [if_pos hx] at h st
      by_cases hy : gl X (dp X S q) < 10
      · have hy8 := gl_8 hX d6 hy
        rw [if_pos hy] at h st
        simp only [Option.some.injEq] at h
        rcases Nat.lt_trichotomy (gl X (dp X S q)) (gl X (dp X S p)) with c | c | c
        · rw [if_pos c] at st
          rw [if_neg (by omega), if_neg (by omega), ← s2, Nat.max_eq_left (by omega), smO_set X S hx8] at h
          subst h
          exact ⟨_, S1_up hS hx8 d6 (fun _ => c), rfl, Nat.le_succ _, by dsimp only; omega, fun r n hr => run1 (hz.symm.trans st) (by omega)⟩
        · rw [if_neg (by omega), if_neg (by omega)] at st
          rw [if_pos c.symm] at h
          subst h
          exact ⟨S, hS, rfl, Nat.le_succ _, by dsimp only; omega, fun r n hr => run1 (hz.symm.trans st) (by omega)⟩
        · rw [if_neg (by omega), if_pos c] at st
          rw [if_neg (by omega), if_pos c, ← s1, Nat.max_eq_right (by omega), smO_set X S hy8] at h
          subst h
          exact ⟨_, S1_up hS hy8 d3 (fun _ => c), rfl, Nat.le_succ _, by dsimp only; omega, fun r n hr => run1 (hz.symm.trans st) (by omega)⟩
      · rw [if_neg hy] at h st
        simp only [Option.some.injEq] at h
        rw [← s2] at h
        unfold bindF at h
        by_cases hw : isWi (smO X S) (gl X (dp X S p)) (sub' X (dp X S q)) = true
        · rw [if_pos hw] at h st
          subst h
          exact ⟨S, hS, rfl, Nat.le_succ _, by dsimp only; omega, fun r n hr => run1 (hz.symm.trans st) (by omega)⟩
        · rw [if_neg hw] at h st
          rw [smO_set X S hx8] at h
          subst h
          exact ⟨_, S1_up hS hx8 d6 (fun z => absurd z hy), rfl, Nat.le_succ _, by dsimp only; omega, fun r n hr => run1 (hz.symm.trans st) (by omega)⟩
    · rw [if_neg hx] at h st
      by_cases hy : gl X (dp X S q) < 10
      · have hy8 := gl_8 hX d6 hy
        rw [if_pos hy] at h st
        simp only [Option.some.injEq] at h
        rw [← s1] at h
        unfold bindF at h
        by_cases hw : isWi (smO X S) (gl X (dp X S q)) (sub' X (dp X S p)) = true
        · rw [if_pos hw] at h st
          subst h
          exact ⟨S, hS, rfl, Nat.le_succ _, by dsimp only; omega, fun r n hr => run1 (hz.symm.trans st) (by omega)⟩
        · rw [if_neg hw] at h st
          rw [smO_set X S hy8] at h
          subst h
          exact ⟨_, S1_up hS hy8 d3 (fun z => absurd z hx), rfl, Nat.le_succ _, by dsimp only; omega, fun r n hr => run1 (hz.symm.trans st) (by omega)⟩
      · rw [if_neg hy] at h st
        by_cases hxy : gl X (dp X S p) = gl X (dp X S q)
        · rw [if_pos hxy] at h st
          rw [← s1, ← s2, show (1 : Nat) = ko X (dp X S p) 0 - dp X S p by show 1 = dp X S p + 1 - dp X S p; omega] at h
          rw [show goOnF (goF f) (pF (gl X (dp X S p))) (sub' X (dp X S p)) (sub' X (dp X S q)) (ko X (dp X S p) 0 - dp X S p) (ko X (dp X S p) 0 - dp X S p) (smO X S) (m + (ko X (dp X S p) 0 - dp X S p)) 0 = goOnF (goF f) (ga X (dp X S p)) (sub' X (dp X S p)) (sub' X (dp X S q)) (ko X (dp X S p) 0 - dp X S p) (ko X (dp X S q) 0 - dp X S q) (smO X S) (m + 1) 0 by
            rw [show ko X (dp X S p) 0 - dp X S p = 1 by show dp X S p + 1 - dp X S p = 1; omega, show ko X (dp X S q) 0 - dp X S q = 1 by show dp X S q + 1 - dp X S q = 1; omega]
            rfl] at h
          obtain ⟨S', q1, q2, q3, q4, q5⟩ := goOn_sim hX IH d3 d6 hxy (ga X (dp X S p)) 0 S (m + 1) G hS (Nat.zero_add _) h
          refine ⟨S', q1, q2, by omega, by omega, fun r n hr => ?_⟩
          rw [show n + (G.2.1 - m) = (n + (G.2.1 - (m + 1))) + 1 by omega, runM_cons X _ S m p q r (by omega), ← hz, st, if_pos rfl]
          exact q5 r n (by omega)
        · rw [if_neg hxy] at h st
          simp only [Option.some.injEq] at h
          subst h
          exact ⟨S, hS, rfl, Nat.le_succ _, by dsimp only; omega, fun r n hr => run1 (hz.symm.trans st) (by omega)⟩
theorem smO_Ac {X : List Nat} (hX : BX X) {S S2 : SS} (hS : S1 X S) (hS2 : S1 X S2) (e : smO X S = smO X S2) (hA : Ac X S2) : Ac X S := by
  obtain ⟨rk, K, h1, h2⟩ := hA
  refine ⟨rk, K, h1, fun x q hq i hi hn => ?_⟩
  obtain ⟨hx8, hql, -⟩ := hS x q hq
  have g1 := smO_get X S hx8
  rw [e, smO_get X S2 hx8, hq] at g1
  cases hq2 : S2 x with
  | none => rw [hq2] at g1; cases g1
  | some q2 =>
    obtain ⟨-, hq2l, -⟩ := hS2 x q2 hq2
    rw [hq2] at g1
    have es : sub' X q2 = sub' X q := Option.some.inj g1
    have el : tl X q2 = tl X q := by rw [← sub_len hX hq2l, ← sub_len hX hql, es]
    have eg : gl X (q2 + i) = gl X (q + i) := by
      have a1 := bx_tl hX hq2l
      have a2 := bx_tl hX hql
      have b1 : (sub' X q2)[i]? = some (gl X (q2 + i)) := by
        unfold sub'
        rw [List.getElem?_take_of_lt (by omega), List.getElem?_drop]
        exact gl_get (by omega)
      have b2 : (sub' X q)[i]? = some (gl X (q + i)) := by
        unfold sub'
        rw [List.getElem?_take_of_lt (by omega), List.getElem?_drop]
        exact gl_get (by omega)
      rw [es, b2] at b1
      exact (Option.some.inj b1).symm
    rw [← eg]
    exact h2 x q2 hq2 i (by omega) (by rw [eg]; exact hn)
/-- the steps of two terms: the stack's run and the reference's -/
theorem runM_ok {one other : List Nat} (t1 : TW one ∧ one.length ≤ 16) (t2 : TW other ∧ other.length ≤ 16) : ∃ (G : GS) (S : SS), goF 40 one other none8 0 0 = some G ∧ GoE one other G ∧ S1 (one ++ other) S ∧ G.1 = smO (one ++ other) S ∧ G.2.1 ≤ 4211 ∧ (G.2.2.1 = 0 → Ac (one ++ other) S) ∧
    runM (one ++ other) G.2.1 sN 0 [(0, one.length)] = some (S, G.2.2.1, G.2.1) := by
  obtain ⟨G, g1, g2⟩ := goE t1 t2
  obtain ⟨bY, e1, e2⟩ := BY_of t1 t2
  have hS0 : S1 (one ++ other) sN := fun x q h => by cases h
  have h0 : 0 < (one ++ other).length := by have := bY.2.1; have := bY.2.2.2.1; omega
  obtain ⟨S', q1, q2, q3, q4, q5⟩ := go_sim bY.1 40 sN 0 one.length 0 G hS0 h0 bY.2.2.2.1 (by rw [e1, e2, ← none8_smO]; exact g1)
  have g3 := g2.2.1
  refine ⟨G, S', g1, g2, q1, q2, by omega, fun hw => ?_, ?_⟩
  · obtain ⟨S2, z1, z2, z3, -⟩ := g2.2.2.2 hw
    exact smO_Ac bY.1 q1 z2 (q2.symm.trans z1) z3
  · have := q5 [] 0 (by decide)
    rw [Nat.zero_add, Nat.sub_zero] at this
    rw [this, runM_nil]
    split
    · rename_i hw
      rw [hw]
    · rfl
end Uc14mach
section Uc15exp
/-! what names come to in the end, with all that names stand for -/
def exN (E : Nat → List Nat) (y : Nat) : List Nat := if y < 10 then E y else [y]
def exF (E : Nat → List Nat) (xs : List Nat) : List Nat := xs.flatMap (exN E)
/-- each name comes to what it stands for, with all that names in that come to -/
def ExP (X : List Nat) (S : SS) (E : Nat → List Nat) : Prop := ∀ x, E x = (match S x with
  | none => [x]
  | some q => exF E (sub' X q))
def exS (X : List Nat) (S : SS) : Nat → Nat → List Nat
  | 0, x => [x]
  | k + 1, x => match S x with
    | none => [x]
    | some q => exF (exS X S k) (sub' X q)
theorem exF_congr {E E' : Nat → List Nat} : ∀ {xs : List Nat}, (∀ y ∈ xs, y < 10 → E y = E' y) → exF E xs = exF E' xs
  | [], _ => rfl
  | x :: r, h => by
    unfold exF
    rw [List.flatMap_cons, List.flatMap_cons]
    have h2 : r.flatMap (exN E) = r.flatMap (exN E') := exF_congr (xs := r) (fun y hy => h y (List.mem_cons_of_mem _ hy))
    rw [h2]
    congr 1
    unfold exN
    by_cases hx : x < 10
    · rw [if_pos hx, if_pos hx]
      exact h x List.mem_cons_self hx
    · rw [if_neg hx, if_neg hx]
theorem mem_sub {X : List Nat} (hX : BX X) {q y : Nat} (hq : q < X.length) (h : y ∈ sub' X q) : ∃ i, i < tl X q ∧ gl X (q + i) = y := by
  obtain ⟨i, hi, e⟩ := List.mem_iff_getElem.mp h
  have a1 := bx_tl hX hq
  have hl := sub_len hX hq
  have e2 : (sub' X q)[i]? = some y := by rw [List.getElem?_eq_getElem hi, e]
  refine ⟨i, by omega, ?_⟩
  have e3 : (sub' X q)[i]? = some (gl X (q + i)) := by
    unfold sub'
    rw [List.getElem?_take_of_lt (by omega), List.getElem?_drop]
    exact gl_get (by omega)
  rw [e2] at e3
  exact (Option.some.inj e3).symm
/-- ranks of names -/
def RkP (X : List Nat) (S : SS) (rk : Nat → Nat) : Prop := ∀ x q, S x = some q → ∀ y ∈ sub' X q, y < 10 → rk y < rk x
theorem Ac.rk {X : List Nat} (hX : BX X) {S : SS} (hS : S1 X S) (hA : Ac X S) : ∃ (rk : Nat → Nat) (K : Nat), (∀ x, rk x < K) ∧ RkP X S rk := by
  obtain ⟨rk, K, h1, h2⟩ := hA
  refine ⟨rk, K, h1, fun x q hq y hy hn => ?_⟩
  obtain ⟨i, hi, rfl⟩ := mem_sub hX (hS x q hq).2.1 hy
  exact h2 x q hq i hi hn
theorem exS_stable {X : List Nat} {S : SS} {rk : Nat → Nat} (h : RkP X S rk) : ∀ k x, rk x < k → exS X S (k + 1) x = exS X S k x := by
  intro k
  induction k with
  | zero => intro x hx; omega
  | succ k ih =>
    intro x hx
    show (match S x with | none => [x] | some q => exF (exS X S (k + 1)) (sub' X q)) = (match S x with | none => [x] | some q => exF (exS X S k) (sub' X q))
    cases e : S x with
    | none => rfl
    | some q =>
      exact exF_congr (fun y hy hn => ih y (by have := h x q e y hy hn; omega))
theorem ExP.ex {X : List Nat} (hX : BX X) {S : SS} (hS : S1 X S) (hA : Ac X S) : ∃ E, ExP X S E := by
  obtain ⟨rk, K, h1, h2⟩ := hA.rk hX hS
  refine ⟨exS X S K, fun x => ?_⟩
  rw [← exS_stable h2 K x (h1 x)]
  rfl
theorem ExP.uq {X : List Nat} (hX : BX X) {S : SS} (hS : S1 X S) (hA : Ac X S) {E E' : Nat → List Nat} (h : ExP X S E) (h' : ExP X S E') : ∀ x, E x = E' x := by
  obtain ⟨rk, K, h1, h2⟩ := hA.rk hX hS
  have key : ∀ n x, rk x < n → E x = E' x := by
    intro n
    induction n with
    | zero => intro x hx; omega
    | succ n ih =>
      intro x hx
      rw [h x, h' x]
      cases e : S x with
      | none => rfl
      | some q => exact exF_congr (fun y hy hn => ih y (by have := h2 x q e y hy hn; omega))
  exact fun x => key K x (h1 x)
theorem exF_used (E : Nat → List Nat) {xs : List Nat} (hx : ∀ y ∈ xs, okL y) : exF E xs = usedL ((List.range 8).map E) xs := by
  induction xs with
  | nil => rfl
  | cons x r ih =>
    rw [usedL_cons, ← ih (fun y hy => hx y (List.mem_cons_of_mem _ hy))]
    show (x :: r).flatMap (exN E) = _
    rw [List.flatMap_cons]
    show exN E x ++ exF E r = _
    congr 1
    unfold exN useL
    rcases hx x List.mem_cons_self with h8 | h8
    · rw [if_pos (by omega), if_pos (by omega), List.getD_eq_getElem?_getD, List.getElem?_map, List.getElem?_range h8]
      rfl
    · rw [if_neg (by omega), if_neg (by omega)]
theorem ExP.tw {X : List Nat} (hX : BX X) {S : SS} (hS : S1 X S) (hA : Ac X S) {E : Nat → List Nat} (h : ExP X S E) : ∀ x, x < 8 → TW (E x) := by
  obtain ⟨rk, K, h1, h2⟩ := hA.rk hX hS
  have key : ∀ n x, rk x < n → x < 8 → TW (E x) := by
    intro n
    induction n with
    | zero => intro x hx; omega
    | succ n ih =>
      intro x hx h8
      rw [h x]
      cases e : S x with
      | none => exact TW.name h8
      | some q =>
        have hql := (hS x q e).2.1
        have tw := sub_TW hX hql
        show TW (exF E (sub' X q))
        rw [exF_congr (E' := fun y => if y ∈ sub' X q then E y else [y]) (fun y hy _ => (if_pos hy).symm), exF_used _ tw.2]
        refine TW.used (fun r hr => ?_) (by simp) tw
        obtain ⟨y, hy, rfl⟩ := List.mem_map.mp hr
        have hy8 := List.mem_range.mp hy
        by_cases hm : y ∈ sub' X q
        · rw [if_pos hm]
          exact ih y (by have := h2 x q e y hm (by omega); omega) hy8
        · rw [if_neg hm]
          exact TW.name hy8
  exact fun x hx => key K x (h1 x) hx
theorem exN_pos {E : Nat → List Nat} (h : ∀ x, x < 8 → TW (E x)) {y : Nat} (hy : okL y) : 0 < (exN E y).length := by
  unfold exN
  rcases hy with z | z
  · rw [if_pos (by omega)]
    exact (h y z).pos
  · rw [if_neg (by omega)]
    exact Nat.zero_lt_one
theorem exF_len {E : Nat → List Nat} (h : ∀ x, x < 8 → TW (E x)) : ∀ {xs : List Nat}, (∀ y ∈ xs, okL y) → xs.length ≤ (exF E xs).length
  | [], _ => Nat.zero_le _
  | x :: r, hx => by
    have i1 := exF_len h (xs := r) (fun y hy => hx y (List.mem_cons_of_mem _ hy))
    have i2 := exN_pos h (hx x List.mem_cons_self)
    show r.length + 1 ≤ ((x :: r).flatMap (exN E)).length
    rw [List.flatMap_cons, List.length_append]
    show r.length + 1 ≤ (exN E x).length + (exF E r).length
    omega
theorem exF_app (E : Nat → List Nat) (xs ys : List Nat) : exF E (xs ++ ys) = exF E xs ++ exF E ys := List.flatMap_append
theorem exF_cons (E : Nat → List Nat) (x : Nat) (xs : List Nat) : exF E (x :: xs) = exN E x ++ exF E xs := List.flatMap_cons
/-- the reference's putting-in comes to the same -/
theorem wh_rel {X : List Nat} (hX : BX X) {S : SS} (hS : S1 X S) (hA : Ac X S) {E : Nat → List Nat} (hE : ExP X S E) : ∀ (f : Nat) (xs : List Nat) (a : Nat) (r : List Nat) (C N : Nat), (∀ y ∈ xs, okL y) → whF f (smO X S) xs a = some (r, C, N) →
    ((xs.take a ++ exF E (xs.drop a)).length ≤ 16 → r = xs.take a ++ exF E (xs.drop a)) ∧ (16 < (xs.take a ++ exF E (xs.drop a)).length → 16 < r.length) := by
  have tw := hE.tw hX hS hA
  intro f
  induction f with
  | zero => intro xs a r C N hx h; cases h
  | succ f ih =>
    intro xs a r C N hx h
    rw [whF] at h
    by_cases c : a < xs.length ∧ xs.length ≤ 16
    · rw [if_pos c] at h
      have hg : xs[a]? = some (xs.getD a 10) := by rw [List.getD_eq_getElem?_getD, List.getElem?_eq_getElem c.1]; rfl
      have hok := hx _ (List.mem_of_getElem? hg)
      have hd := drop_cons hg
      cases e : stAt (smO X S) xs a with
      | some t =>
        rw [e] at h
        dsimp only at h
        unfold stAt at e
        by_cases hn : xs.getD a 10 < 10
        · rw [if_pos hn] at e
          obtain ⟨q, h8, hq, rfl⟩ := smO_inv e
          have hql := (hS _ q hq).2.1
          have tq := sub_TW hX hql
          cases e2 : whF f (smO X S) (xs.take a ++ sub' X q ++ xs.drop (a + 1)) a with
          | none => rw [e2] at h; cases h
          | some w =>
            obtain ⟨r2, c2, n2⟩ := w
            rw [e2] at h
            simp only [Option.some.injEq, Prod.mk.injEq] at h
            obtain ⟨rfl, -, -⟩ := h
            have z := ih _ a r2 c2 n2 (fun y hy => by
              rcases List.mem_append.mp hy with k | k
              · rcases List.mem_append.mp k with k | k
                · exact hx y (List.mem_of_mem_take k)
                · exact tq.2 y k
              · exact hx y (List.mem_of_mem_drop k)) e2
            have hl : (xs.take a).length = a := by rw [List.length_take]; omega
            have e3 : (xs.take a ++ sub' X q ++ xs.drop (a + 1)).take a ++ exF E ((xs.take a ++ sub' X q ++ xs.drop (a + 1)).drop a) = xs.take a ++ exF E (xs.drop a) := by
              rw [List.append_assoc, List.take_append_of_le_length (by omega), List.take_of_length_le (by omega), List.drop_append_of_le_length (by omega), List.drop_of_length_le (by omega), List.nil_append, exF_app, hd, exF_cons]
              congr 2
              unfold exN
              rw [if_pos hn, hE (xs.getD a 10), hq]
            rw [e3] at z
            exact z
        · rw [if_neg hn] at e
          cases e
      | none =>
        rw [e] at h
        dsimp only at h
        have z := ih xs (a + 1) r C N hx h
        have e3 : xs.take (a + 1) ++ exF E (xs.drop (a + 1)) = xs.take a ++ exF E (xs.drop a) := by
          rw [List.take_add_one, hg, hd, exF_cons, List.append_assoc]
          congr 2
          unfold exN
          unfold stAt at e
          by_cases hn : xs.getD a 10 < 10
          · rw [if_pos hn] at e ⊢
            have h8 : xs.getD a 10 < 8 := by rcases hok with z | z <;> omega
            rw [smO_get X S h8] at e
            rw [hE (xs.getD a 10)]
            cases e4 : S (xs.getD a 10) with
            | none => rfl
            | some q => rw [e4] at e; cases e
          · rw [if_neg hn]
            rfl
        rw [e3] at z
        exact z
    · rw [if_neg c] at h
      simp only [Option.some.injEq, Prod.mk.injEq] at h
      obtain ⟨rfl, -, -⟩ := h
      have hle := exF_len tw (xs := xs.drop a) (fun y hy => hx y (List.mem_of_mem_drop hy))
      rw [List.length_append]
      rw [List.length_drop] at hle
      rw [List.length_take]
      rcases Nat.lt_or_ge a xs.length with ha | ha
      · exact ⟨fun k => by omega, fun _ => by omega⟩
      · rw [List.drop_eq_nil_of_le ha, List.take_of_length_le ha]
        refine ⟨fun _ => by rw [show exF E [] = [] from rfl, List.append_nil], fun k => ?_⟩
        rw [show exF E [] = [] from rfl] at k
        simp only [List.length_nil] at k
        omega
/-- a term that holds these letters, or too long -/
def RP16 (t : TC) (z : List Nat) : Prop := (z.length ≤ 16 ∧ t = (z.map nI, false)) ∨ (16 < z.length ∧ t.2 = true ∧ t.1.length ≤ 16)
theorem RP16.add {t u : TC} {z y : List Nat} (h : RP16 t z) (g : RP16 u y) : RP16 (addT 16 t u) (z ++ y) := by
  have hl : (z ++ y).length = z.length + y.length := List.length_append
  rcases h with ⟨h1, rfl⟩ | ⟨h1, h2, h3⟩
  · rcases g with ⟨g1, rfl⟩ | ⟨g1, g2, g3⟩
    · rw [addT_rows, addR_eq _ _ _ (by show (z.map nI).length ≤ 16; rw [List.length_map]; exact h1)]
      show RP16 ((z.map nI ++ y.map nI).take 16, (false || decide (16 < (z.map nI).length + (y.map nI).length))) (z ++ y)
      rw [← List.map_append, List.length_map, List.length_map, Bool.false_or]
      rcases Nat.lt_or_ge 16 (z.length + y.length) with c | c
      · refine Or.inr ⟨by omega, decide_eq_true c, ?_⟩
        show (List.take 16 ((z ++ y).map nI)).length ≤ 16
        rw [List.length_take]
        omega
      · refine Or.inl ⟨by omega, ?_⟩
        rw [List.take_of_length_le (by rw [List.length_map]; omega), decide_eq_false (by omega)]
    · refine Or.inr ⟨by omega, ?_, addR_len (by show (z.map nI).length ≤ 16; rw [List.length_map]; exact h1) _⟩
      show (_ || u.2) = true
      rw [g2, Bool.or_true]
  · refine Or.inr ⟨by omega, ?_, addR_len h3 _⟩
    show ((addR 16 t u.1).2 || u.2) = true
    rw [addR_eq _ _ _ h3, h2]
    rfl
theorem RP16.one {t : TC} {z : List Nat} (h : RP16 t z) (x : Nat) : RP16 (addC 16 t (nI x)) (z ++ [x]) := by
  have e : addC 16 t (nI x) = addT 16 t (([x] : List Nat).map nI, false) := by
    rw [addT_rows]
    rfl
  rw [e]
  exact h.add (Or.inl ⟨Nat.le_of_ble_eq_true rfl, rfl⟩)
theorem RP16.len {t : TC} {z : List Nat} (h : RP16 t z) : t.1.length ≤ 16 := by
  rcases h with ⟨h1, rfl⟩ | ⟨h1, h2, h3⟩
  · show (z.map nI).length ≤ 16
    rw [List.length_map]
    exact h1
  · exact h3
theorem RP16.flag {t : TC} {z : List Nat} (h : RP16 t z) : t.2 = decide (16 < z.length) := by
  rcases h with ⟨h1, rfl⟩ | ⟨h1, h2, h3⟩
  · exact (decide_eq_false (by omega)).symm
  · rw [h2, decide_eq_true h1]
theorem auC_rep {u : Nat} {F : Nat → TC} {E : Nat → List Nat} : ∀ (ns : List Nat) (t : TC) (z : List Nat), (∀ x ∈ ns, okL x) → (∀ x ∈ ns, x < 8 → RP16 (F (u + x)) (E x)) → RP16 t z → RP16 (auC 16 F u t ns) (z ++ exF E ns) := by
  intro ns
  induction ns with
  | nil =>
    intro t z _ _ h
    rw [show exF E [] = [] from rfl, List.append_nil]
    exact h
  | cons x r ih =>
    intro t z hx hF h
    rw [exF_cons, ← List.append_assoc]
    refine ih _ _ (fun y hy => hx y (List.mem_cons_of_mem _ hy)) (fun y hy => hF y (List.mem_cons_of_mem _ hy)) ?_
    unfold exN
    show RP16 (if x < 8 then addT 16 t (F (u + x)) else addC 16 t (nI x)) (z ++ (if x < 10 then E x else [x]))
    rcases hx x List.mem_cons_self with h8 | h8
    · rw [if_pos h8, if_pos (by omega)]
      exact h.add (hF x List.mem_cons_self h8)
    · rw [if_neg (by omega), if_neg (by omega)]
      exact h.one x
theorem nI_and (a b : Nat) : nI a &&& nI b = nI (a &&& b) := by
  apply Int32.toBitVec_inj.mp
  show BitVec.ofNat 32 a &&& BitVec.ofNat 32 b = BitVec.ofNat 32 (a &&& b)
  apply BitVec.eq_of_getLsbD_eq
  intro i hi
  rw [BitVec.getLsbD_and, BitVec.getLsbD_ofNat, BitVec.getLsbD_ofNat, BitVec.getLsbD_ofNat, Nat.testBit_and]
  simp [hi]
theorem n255 : ∀ m : Nat, m < 256 → nI 255 &&& (nI m ^^^ Int32.ofInt (-1)) = nI (255 ^^^ m) := by decide +kernel
theorem a255 : ∀ m : Nat, m < 256 → nI m &&& nI 255 = nI m := by decide +kernel
theorem bt_tb (s y : Nat) : bt s y ↔ s.testBit y = true := by
  unfold bt
  rw [Nat.testBit_eq_decide_div_mod_eq, Nat.shiftRight_eq_div_pow, decide_eq_true_eq]
/-- all of one set stands in another one -/
theorem in_set {a m : Nat} (ha : a < 256) (hm : m < 256) : nI a &&& (nI m ^^^ Int32.ofInt (-1)) = 0 ↔ ∀ y, y < 8 → bt a y → bt m y := by
  have e : nI a &&& (nI m ^^^ Int32.ofInt (-1)) = nI (a &&& (255 ^^^ m)) := by
    rw [← a255 a ha, Int32.and_assoc, n255 m hm, nI_and]
  rw [e]
  have hlt : a &&& (255 ^^^ m) < 2 ^ 31 := by have := Nat.and_le_left (n := a) (m := 255 ^^^ m); omega
  constructor
  · intro h y hy h1
    have h0 : a &&& (255 ^^^ m) = 0 := nI_inj (b := 0) hlt (by decide) h
    have h2 := congrArg (fun z : Nat => z.testBit y) h0
    simp only [Nat.testBit_and, Nat.testBit_xor, Nat.zero_testBit] at h2
    rw [(bt_tb a y).mp h1, show (255 : Nat) = 2 ^ 8 - 1 from rfl, Nat.testBit_two_pow_sub_one, decide_eq_true hy] at h2
    rw [bt_tb]
    cases hz : m.testBit y with
    | true => rfl
    | false => rw [hz] at h2; cases h2
  · intro h
    have h0 : a &&& (255 ^^^ m) = 0 := by
      apply Nat.eq_of_testBit_eq
      intro y
      rw [Nat.testBit_and, Nat.testBit_xor, Nat.zero_testBit, show (255 : Nat) = 2 ^ 8 - 1 from rfl, Nat.testBit_two_pow_sub_one]
      cases h1 : a.testBit y with
      | false => rfl
      | true =>
        have hy : y < 8 := by
          rcases Nat.lt_or_ge y 8 with z | z
          · exact z
          · rw [Nat.testBit_lt_two_pow (Nat.lt_of_lt_of_le ha (Nat.pow_le_pow_right (by decide : 0 < 2) z))] at h1
            cases h1
        rw [(bt_tb m y).mp (h y hy ((bt_tb a y).mpr h1)), decide_eq_true hy]
        rfl
    rw [h0]
    rfl
theorem bt_set {m n y : Nat} (hy : y < 10) : bt (m ||| 2 ^ n) y ↔ bt m y ∨ y = n := by
  rw [bt_or]
  constructor
  · rintro (h | h)
    · exact Or.inl h
    · rw [bt_tb, Nat.testBit_two_pow, decide_eq_true_eq] at h
      exact Or.inr h.symm
  · rintro (h | h)
    · exact Or.inl h
    · refine Or.inr ?_
      rw [bt_tb, Nat.testBit_two_pow, decide_eq_true_eq]
      exact h.symm
theorem set_lt {m n : Nat} (hm : m < 256) (hn : n < 8) : m ||| 2 ^ n < 256 := Nat.or_lt_two_pow (n := 8) hm (Nat.pow_lt_pow_right (by decide) hn)
/-- among the names that aren't ready is one for which all is ready -/
theorem rdy_ex {X : List Nat} (hX : BX X) {S : SS} (hS : S1 X S) {rk : Nat → Nat} (hR : RkP X S rk) {m : Nat} : ∀ (k n : Nat), rk n < k → n < 8 → ¬ bt m n → ∃ n', n' < 8 ∧ ¬ bt m n' ∧ ∀ q, S n' = some q → ∀ y ∈ sub' X q, y < 8 → bt m y := by
  intro k
  induction k with
  | zero => intro n h; omega
  | succ k ih =>
    intro n h h8 hn
    by_cases c : ∀ q, S n = some q → ∀ y ∈ sub' X q, y < 8 → bt m y
    · exact ⟨n, h8, hn, c⟩
    · obtain ⟨q, c⟩ := Classical.not_forall.mp c
      obtain ⟨hq, c⟩ := Classical.not_imp.mp c
      obtain ⟨y, c⟩ := Classical.not_forall.mp c
      obtain ⟨hy, c⟩ := Classical.not_imp.mp c
      obtain ⟨hy8, c⟩ := Classical.not_imp.mp c
      exact ih y (by have := hR n q hq y hy (by omega); omega) hy8 c
end Uc15exp
section Uc16whole
/-! the class, strongly: an answer out of places (printed by wip/p20/genT4.py) -/
theorem pI_some (q : Nat) : pI (some q) = nI q := rfl
theorem pI_none : pI none = Int32.ofInt (-1) := rfl
theorem nI_m1 {q : Nat} (h : q < 2 ^ 31) : nI q ≠ Int32.ofInt (-1) := fun z => nI_pos h (by rw [z]; decide +kernel)
section S16
variable {la : Launch} {D : va_G} {cA : Nat → ClassId} {B0 pa : Nat} {B Q P : Nat → Nat} {F : Nat → TC}
set_option maxHeartbeats 16000000 in
theorem s0_addUsedT (h : AH) (Y : LYO B Q) (S : TS B Q h F) {o f : Nat} (O : AnO B h o f) {i1 : Nat} (h1i : i1 < 52) {nz : List Nat} (hN : TN (F i1) nz) {i2 : Nat} (h2i : i2 < 52) (h12 : i1 ≠ i2)  {a b : Nat} (hab : a ≤ b) (hb : b ≤ nz.length) (h2f : ∀ y ∈ (nz.drop a).take (b - a), y < 8 → f + y ≠ i2) : CT la D cA B0 pa yX0_addUsed cX0_addUsed 7 none (rmD 2 0 0) [.ref o, .ref (B i1), vI a, vI b, .ref (B i2)] h (TP B Q (upF F i2 (auC (rmI i2) F f (F i2) ((nz.drop a).take (b - a)))) h) := by
  refine CT_of (by decide +kernel) (Nat.le_of_ble_eq_true rfl) ?_
  intro p e s m args below meth c X E hr hlk hnm
  have dk : ∀ {pc : Nat} {q : Instr × Nat}, lkd DX0_addUsed pc = some q → decode cX0_addUsed pc = .ok q := lkd_ok DX0_addUsed_ok
  obtain ⟨of, arr, o1, o2⟩ := id O
  have hL := rmI_le i1
  have hlen := (S i1 h1i).1
  rw [hN.len] at hlen
  have loop : ∀ (d k : Nat) (t : TC) (h1 : AH), d = b - k → k ≤ b → a ≤ k → TS B Q h1 (upF F i2 t) → FrT B Q h h1 → auC (rmI i2) F f t ((nz.drop k).take (b - k)) = (auC (rmI i2) F f (F i2) ((nz.drop a).take (b - a))) → ∀ l : List (Nat × Value), lsel l [5, 4, 3, 1, 0] = [(5, vI k), (4, .ref (B i2)), (3, vI b), (1, .ref (B i1)), (0, .ref o)] → WR p la e (rmD 2 0 0) s m args below meth c D cA B0 7 (TP B Q (upF F i2 (auC (rmI i2) F f (F i2) ((nz.drop a).take (b - a)))) h) 3 l [] h1 0 0 := by
    intro d
    induction d with
    | zero =>
      intro k t h1 hd hk hak S1 f1 eU l hl
      have hk2 : k = b := by omega
      rw [hk2, Nat.sub_self, List.take_zero] at eU
      have e2 : t = (auC (rmI i2) F f (F i2) ((nz.drop a).take (b - a))) := eU
      rw [e2] at S1
      refine WS.sel [5, 4, 3, 1, 0] hl ?_
      iterate 2 refine fst1_ok X (dk rfl) rfl ?_
      refine br_ok X (dk rfl) rfl (show ((6 : Nat) : Int) + 47 = ((53 : Nat) : Int) from rfl) (fun _ => ?_) (fun q => absurd (by rw [hk2]; exact Int32.le_refl _) q)
      exact retv_ok X hr hlk (dk rfl) ⟨rfl, S1, f1⟩ (Nat.le_of_ble_eq_true rfl) (Nat.le_of_ble_eq_true rfl)
    | succ d ih =>
      intro k t h1 hd hk hak S1 f1 eU l hl
      have p1 := f1.keep S o1 (by decide) (by decide)
      have p2 := f1.keep S o2 (by decide) (by decide)
      obtain ⟨y, hy⟩ : ∃ y, nz[k]? = some y := ⟨_, List.getElem?_eq_getElem (by omega)⟩
      have hok := hN.2 y (List.mem_of_getElem? hy)
      have hyx := hok.lt
      have hyin : y ∈ (nz.drop a).take (b - a) := by
        refine List.mem_of_getElem? (i := k - a) ?_
        rw [List.getElem?_take_of_lt (by omega), List.getElem?_drop, show a + (k - a) = k by omega]
        exact hy
      rw [drop_cons hy, show b - k = (b - (k + 1)) + 1 by omega, List.take_succ_cons] at eU
      have hN1 : TN (upF F i2 t i1) nz := by rw [upF_ne _ _ h12]; exact hN
      refine WS.sel [5, 4, 3, 1, 0] hl ?_
      iterate 2 refine fst1_ok X (dk rfl) rfl ?_
      refine br_ok X (dk rfl) rfl (show ((6 : Nat) : Int) + 47 = ((53 : Nat) : Int) from rfl) (fun q => absurd q (nI_ge (by omega) (by omega))) (fun _ => ?_)
      iterate 2 refine fst1_ok X (dk rfl) rfl ?_
      refine callVR_ok (ci := 7) (T := TX5) (N := 3) (av := [vI k]) (r := []) X E (s5_letterAt h1 S1 h1i (nI k)) lkX5_letterAt mlX0_38 lmX5_letterAt lpX5_letterAt ⟨Nat.le_of_ble_eq_true rfl, Nat.le_of_ble_eq_true rfl⟩ ⟨Nat.le_of_ble_eq_true rfl, Nat.le_of_ble_eq_true rfl⟩ rfl ⟨_, (S1 i1 h1i).2.1⟩ (Nat.le_of_ble_eq_true rfl) (dk rfl) ?_
      rintro _ rfl
      rw [hN1.lt hy (by omega)]
      iterate 2 refine fst1_ok X (dk rfl) rfl ?_
      refine callNR_ok (av := [vI y]) (r := []) X E (s6_isName h1 (x := y) (by omega)) lkX6_isName mnX0_23 lsX6_isName ⟨Nat.le_of_ble_eq_true rfl, Nat.le_of_ble_eq_true rfl⟩ ⟨Nat.le_of_ble_eq_true rfl, Nat.le_of_ble_eq_true rfl⟩ (Nat.le_of_ble_eq_true rfl) (dk rfl) ?_
      rintro _ rfl
      have f3 : Value.int (nI k + Int32.ofInt 1) = vI (k + 1) := congrArg Value.int (by rw [nI_1', nI_add])
      have nxt : ∀ (h2 : AH), TS B Q h2 (upF F i2 (if y < 8 then addT (rmI i2) t (F (f + y)) else addC (rmI i2) t (nI y))) → FrT B Q h1 h2 → ∀ l : List (Nat × Value), lsel l [5, 4, 3, 1, 0] = [(5, vI k), (4, .ref (B i2)), (3, vI b), (1, .ref (B i1)), (0, .ref o)] → WR p la e (rmD 2 0 0) s m args below meth c D cA B0 7 (TP B Q (upF F i2 (auC (rmI i2) F f (F i2) ((nz.drop a).take (b - a)))) h) 47 l [] h2 0 0 := by
        intro h2 S2 f2 l hl
        refine WS.sel [5, 4, 3, 1, 0] hl ?_
        refine fst1_ok X (dk rfl) rfl ?_
        refine br_ok X (dk rfl) rfl (show ((50 : Nat) : Int) + (-47) = ((3 : Nat) : Int) from rfl) (fun _ => ?_) (fun q => absurd trivial q)
        refine WS.sel (l' := [(5, vI (k + 1)), (4, .ref (B i2)), (3, vI b), (1, .ref (B i1)), (0, .ref o)]) [5, 4, 3, 1, 0] (by rw [← f3]; rfl) ?_
        exact ih (k + 1) _ h2 (by omega) (by omega) (by omega) S2 (f1.trans f2) eU _ rfl
      by_cases h8 : y < 8
      · rw [decide_eq_true h8]
        rw [if_pos h8] at nxt
        refine br_ok X (dk rfl) rfl (show ((22 : Nat) : Int) + 18 = ((40 : Nat) : Int) from rfl) (fun q => absurd q bI_t) (fun _ => ?_)
        iterate 2 refine fst1_ok X (dk rfl) rfl ?_
        refine getf_ok X flX0_11 (dk rfl) p1 rfl ?_
        refine fst1_ok X (dk rfl) rfl ?_
        refine aldr_ok X (Or.inl rfl) (dk rfl) p2 (by omega) (rgB_get B f (k := y) (by omega)) ?_
        refine callVT_ok (ci := 7) (T := TX5) (N := 3) (av := [.ref (B (f + y))]) (r := []) X E (s5_addTerm h1 Y S1 h2i (j := f + y) (by omega) (h2f y hyin h8)) lkX5_addTerm mlX0_64 lmX5_addTerm lpX5_addTerm ⟨Nat.le_of_ble_eq_true rfl, Nat.le_of_ble_eq_true rfl⟩ ⟨Nat.le_of_ble_eq_true rfl, Nat.le_of_ble_eq_true rfl⟩ rfl (S1 i2 h2i).2.1 (Nat.le_of_ble_eq_true rfl) (dk rfl) (fun h2 S2 f2 => ?_)
        rw [upF_self, upF_up, upF_ne _ _ (h2f y hyin h8)] at S2
        refine br_ok X (dk rfl) rfl (show ((37 : Nat) : Int) + 10 = ((47 : Nat) : Int) from rfl) (fun _ => ?_) (fun q => absurd trivial q)
        exact nxt h2 S2 f2 _ rfl
      · rw [decide_eq_false h8]
        rw [if_neg h8] at nxt
        refine br_ok X (dk rfl) rfl (show ((22 : Nat) : Int) + 18 = ((40 : Nat) : Int) from rfl) (fun _ => ?_) (fun q => absurd bI_f' q)
        iterate 2 refine fst1_ok X (dk rfl) rfl ?_
        refine callVT_ok (ci := 7) (T := TX5) (N := 3) (av := [vI y]) (r := []) X E (s5_add h1 Y S1 h2i (nI y)) lkX5_add mlX0_67 lmX5_add lpX5_add ⟨Nat.le_of_ble_eq_true rfl, Nat.le_of_ble_eq_true rfl⟩ ⟨Nat.le_of_ble_eq_true rfl, Nat.le_of_ble_eq_true rfl⟩ rfl (S1 i2 h2i).2.1 (Nat.le_of_ble_eq_true rfl) (dk rfl) (fun h2 S2 f2 => ?_)
        rw [upF_self, upF_up] at S2
        exact nxt h2 S2 f2 _ rfl
  iterate 2 refine fst1_ok X (dk rfl) rfl ?_
  exact loop _ a (F i2) h rfl hab (Nat.le_refl _) (by rw [upF_same]; exact S) (FrT.rf h) rfl _ rfl
/-- an answer that is made out of places -/
def whC (B Q : Nat → Nat) (F : Nat → TC) (f : Nat) (E : Nat → List Nat) (h : AH) (v : Option Value) (h' : AH) : Prop := v = none ∧ FrT B Q h h' ∧ ∃ G : Nat → TC, TS B Q h' (upK F f G 8) ∧ ∀ n, n < 8 → RP16 (G n) (E n)
set_option maxHeartbeats 64000000 in
theorem s0_becomeWholeOf (h : AH) (Y : LYO B Q) (S : TS B Q h F) {o f : Nat} (O : AnO B h o f) (hrm : ∀ n, n < 8 → rmI (f + n) = 16) {ib : Nat} (hib : ib < 52) (hbf : ib < f ∨ f + 8 ≤ ib) {Xx : List Nat} (hX : BX Xx) (hN : TN (F ib) Xx) {R : Nat} {row : List Int32} {Sx : SS} (hR : h R = some (107, row.map Value.int)) (hrl : row.length = 8) (hrv : ∀ n, n < 8 → row[n]? = some (pI (Sx n))) (hRQ : ∀ i, i < 52 → R ≠ Q i) (hS : S1 Xx Sx) (hA : Ac Xx Sx) {Ex : Nat → List Nat} (hE : ExP Xx Sx Ex) : CT la D cA B0 pa yX0_becomeWholeOf cX0_becomeWholeOf 8 none (rmD 3 0 0) [.ref o, .ref (B ib), .ref R] h (whC B Q F f Ex h) := by
  refine CT_of (by decide +kernel) (Nat.le_of_ble_eq_true rfl) ?_
  intro p e s m args below meth c X E hr hlk hnm
  have dk : ∀ {pc : Nat} {q : Instr × Nat}, lkd DX0_becomeWholeOf pc = some q → decode cX0_becomeWholeOf pc = .ok q := lkd_ok DX0_becomeWholeOf_ok
  obtain ⟨of, arr, o1, o2⟩ := id O
  obtain ⟨rk, K, rk1, rk2⟩ := hA.rk hX hS
  have hX32 := hX.2.2
  have tw := hE.tw hX hS hA
  have hrow : ∀ {hh : AH}, FrT B Q h hh → hh R = some (107, row.map Value.int) := fun {hh} f1 => by
    rw [f1 R (fun i hi => ⟨k_ne hR (S i hi).2.1 (by decide), hRQ i hi⟩)]
    exact hR
  have outer : ∀ (d t mk : Nat) (G : Nat → TC) (h1 : AH), d + t = 8 → mk < 256 → ((∀ y, y < 8 → bt mk y) ∨ t ≤ bc8 mk) → (∀ n, n < 8 → bt mk n → RP16 (G n) (Ex n)) → TS B Q h1 (upK F f G 8) → FrT B Q h h1 → ∀ l : List (Nat × Value), lsel l [4, 3, 2, 1, 0] = [(4, vI t), (3, vI mk), (2, .ref R), (1, .ref (B ib)), (0, .ref o)] → WR p la e (rmD 3 0 0) s m args below meth c D cA B0 8 (whC B Q F f Ex h) 5 l [] h1 0 0 := by
    intro d
    induction d with
    | zero =>
      intro t mk G h1 hd hm hb hG S1 f1 l hl
      have ht : t = 8 := by omega
      subst ht
      have hall : ∀ n, n < 8 → bt mk n := fun n hn => hb.elim (fun z => z n hn) (fun z => bc_8 z hn)
      refine WS.sel [4, 3, 2, 1, 0] hl ?_
      iterate 2 refine fst1_ok X (dk rfl) rfl ?_
      refine br_ok X (dk rfl) rfl (show ((9 : Nat) : Int) + 131 = ((140 : Nat) : Int) from rfl) (fun _ => ?_) (fun q => absurd (by rw [nI_8']; exact Int32.le_refl _) q)
      exact retv_ok X hr hlk (dk rfl) (⟨rfl, f1, G, S1, fun n hn => hG n hn (hall n hn)⟩) (Nat.le_of_ble_eq_true rfl) (Nat.le_of_ble_eq_true rfl)
    | succ d ih =>
      intro t mk0 G0 h0 hd hm0 hb hG0 S0 f0 l hl
      refine WS.sel [4, 3, 2, 1, 0] hl ?_
      iterate 2 refine fst1_ok X (dk rfl) rfl ?_
      refine br_ok X (dk rfl) rfl (show ((9 : Nat) : Int) + 131 = ((140 : Nat) : Int) from rfl) (fun q => absurd q (by rw [nI_8']; exact nI_ge (by omega) (by omega))) (fun _ => ?_)
      have ft : Value.int (nI t + Int32.ofInt 1) = vI (t + 1) := congrArg Value.int (by rw [nI_1', nI_add])
      have inner : ∀ (u n mk : Nat) (G : Nat → TC) (h1 : AH), u + n = 8 → mk < 256 → (∀ y, bt mk0 y → bt mk y) → (∀ y, y < n → (∀ q, Sx y = some q → ∀ z ∈ sub' Xx q, z < 8 → bt mk0 z) → bt mk y) → (∀ y, y < 8 → bt mk y → RP16 (G y) (Ex y)) → TS B Q h1 (upK F f G 8) → FrT B Q h h1 → ∀ l : List (Nat × Value), lsel l [5, 4, 3, 2, 1, 0] = [(5, vI n), (4, vI t), (3, vI mk), (2, .ref R), (1, .ref (B ib)), (0, .ref o)] → WR p la e (rmD 3 0 0) s m args below meth c D cA B0 8 (whC B Q F f Ex h) 15 l [] h1 0 0 := by
        intro u
        induction u with
        | zero =>
          intro n mk G h1 hn hm hsub hdn hG S1 f1 l hl
          have hn8 : n = 8 := by omega
          subst hn8
          refine WS.sel [5, 4, 3, 2, 1, 0] hl ?_
          iterate 2 refine fst1_ok X (dk rfl) rfl ?_
          refine br_ok X (dk rfl) rfl (show ((19 : Nat) : Int) + 115 = ((134 : Nat) : Int) from rfl) (fun _ => ?_) (fun q => absurd (by rw [nI_8']; exact Int32.le_refl _) q)
          refine fst1_ok X (dk rfl) rfl ?_
          refine br_ok X (dk rfl) rfl (show ((137 : Nat) : Int) + (-132) = ((5 : Nat) : Int) from rfl) (fun _ => ?_) (fun q => absurd trivial q)
          refine WS.sel (l' := [(4, vI (t + 1)), (3, vI mk), (2, .ref R), (1, .ref (B ib)), (0, .ref o)]) [4, 3, 2, 1, 0] (by rw [← ft]; rfl) ?_
          refine ih (t + 1) mk G h1 (by omega) hm ?_ hG S1 f1 _ rfl
          by_cases hall : ∀ y, y < 8 → bt mk y
          · exact Or.inl hall
          · refine Or.inr ?_
            have hall0 : ¬ ∀ y, y < 8 → bt mk0 y := fun z => hall (fun y hy => hsub y (z y hy))
            obtain ⟨y, c⟩ := Classical.not_forall.mp hall0
            obtain ⟨hy, c⟩ := Classical.not_imp.mp c
            obtain ⟨n', g1, g2, g3⟩ := rdy_ex hX hS rk2 K y (rk1 y) hy c
            have g4 := hdn n' g1 g3
            have g5 := bc_lt hm0 hm hsub (fun z => g2 (by rw [z]; exact g4))
            have g6 := hb.resolve_left hall0
            omega
        | succ u ihe =>
          intro n mk G h1 hn hm hsub hdn hG S1 f1 l hl
          have p1 := f1.keep S o1 (by decide) (by decide)
          have p2 := f1.keep S o2 (by decide) (by decide)
          have eb : upK F f G 8 ib = F ib := upK_out F f _ hbf
          have hN1 : TN (upK F f G 8 ib) Xx := by rw [eb]; exact hN
          have hr := hrow f1
          have fn : Value.int (nI n + Int32.ofInt 1) = vI (n + 1) := congrArg Value.int (by rw [nI_1', nI_add])
          have nxt : ∀ (mk2 : Nat) (G2 : Nat → TC) (h2 : AH), mk2 < 256 → (∀ y, bt mk y → bt mk2 y) → ((∀ q, Sx n = some q → ∀ z ∈ sub' Xx q, z < 8 → bt mk0 z) → bt mk2 n) → (∀ y, y < 8 → bt mk2 y → RP16 (G2 y) (Ex y)) → TS B Q h2 (upK F f G2 8) → FrT B Q h h2 → ∀ l : List (Nat × Value), lsel l [5, 4, 3, 2, 1, 0] = [(5, vI n), (4, vI t), (3, vI mk2), (2, .ref R), (1, .ref (B ib)), (0, .ref o)] → WR p la e (rmD 3 0 0) s m args below meth c D cA B0 8 (whC B Q F f Ex h) 128 l [] h2 0 0 := by
            intro mk2 G2 h2 k1 k2 k3 k4 k5 k6 l hl
            refine WS.sel [5, 4, 3, 2, 1, 0] hl ?_
            refine fst1_ok X (dk rfl) rfl ?_
            refine br_ok X (dk rfl) rfl (show ((131 : Nat) : Int) + (-116) = ((15 : Nat) : Int) from rfl) (fun _ => ?_) (fun q => absurd trivial q)
            refine WS.sel (l' := [(5, vI (n + 1)), (4, vI t), (3, vI mk2), (2, .ref R), (1, .ref (B ib)), (0, .ref o)]) [5, 4, 3, 2, 1, 0] (by rw [← fn]; rfl) ?_
            exact ihe (n + 1) mk2 G2 h2 (by omega) k1 (fun y hy => k2 y (hsub y hy)) (fun y hy hh => by
              rcases Nat.lt_or_ge y n with z | z
              · exact k2 y (hdn y z hh)
              · have : y = n := by omega
                subst this
                exact k3 hh) k4 k5 k6 _ rfl
          refine WS.sel [5, 4, 3, 2, 1, 0] hl ?_
          iterate 2 refine fst1_ok X (dk rfl) rfl ?_
          refine br_ok X (dk rfl) rfl (show ((19 : Nat) : Int) + 115 = ((134 : Nat) : Int) from rfl) (fun q => absurd q (by rw [nI_8']; exact nI_ge (by omega) (by omega))) (fun _ => ?_)
          iterate 2 refine fst1_ok X (dk rfl) rfl ?_
          refine alen7_ok X (dk rfl) hr hrl ?_
          refine br_ok X (dk rfl) rfl (show ((26 : Nat) : Int) + 108 = ((134 : Nat) : Int) from rfl) (fun q => absurd q (nI_ge (by omega) (by omega))) (fun _ => ?_)
          iterate 2 refine fst1_ok X (dk rfl) rfl ?_
          refine ald7v_ok X (dk rfl) hr (nI_pos (by omega)) (by rw [nI_clamp (by omega)]; exact hrv n (by omega)) ?_
          iterate 3 refine fst1_ok X (dk rfl) rfl ?_
          cases hs : Sx n with
          | none =>
            rw [pI_none]
            refine callVR_ok (ci := 7) (T := TX5) (N := 3) (av := [.int (Int32.ofInt (-1))]) (r := []) X E (s5_endOfN h1 S1 hib hN1) lkX5_endOf mlX0_81 lmX5_endOf lpX5_endOf ⟨Nat.le_of_ble_eq_true rfl, Nat.le_of_ble_eq_true rfl⟩ ⟨Nat.le_of_ble_eq_true rfl, Nat.le_of_ble_eq_true rfl⟩ rfl ⟨_, (S1 ib hib).2.1⟩ (Nat.le_of_ble_eq_true rfl) (dk rfl) ?_
            rintro _ rfl
            iterate 3 refine fst1_ok X (dk rfl) rfl ?_
            refine br_ok X (dk rfl) rfl (show ((46 : Nat) : Int) + 25 = ((71 : Nat) : Int) from rfl) (fun q => absurd rfl q) (fun _ => ?_)
            refine fst1_ok X (dk rfl) rfl ?_
            refine getf_ok X flX0_11 (dk rfl) p1 rfl ?_
            refine fst1_ok X (dk rfl) rfl ?_
            refine aldr_ok X (Or.inl rfl) (dk rfl) p2 (by omega) (rgB_get B f (k := n) (by omega)) ?_
            refine fst1_ok X (dk rfl) rfl ?_
            refine callVT_ok (ci := 7) (T := TX5) (N := 3) (av := [vI n]) (r := []) X E (s5_becomeName h1 Y S1 (i := f + n) (by omega) (nI n)) lkX5_becomeName mlX0_20 lmX5_becomeName lpX5_becomeName ⟨Nat.le_of_ble_eq_true rfl, Nat.le_of_ble_eq_true rfl⟩ ⟨Nat.le_of_ble_eq_true rfl, Nat.le_of_ble_eq_true rfl⟩ rfl (S1 (f + n) (by omega)).2.1 (Nat.le_of_ble_eq_true rfl) (dk rfl) (fun h2 S2 f2 => ?_)
            rw [upK_one (by omega)] at S2
            iterate 6 refine fst1_ok X (dk rfl) rfl ?_
            rw [shl1 n (by omega), nI_or]
            refine br_ok X (dk rfl) rfl (show ((68 : Nat) : Int) + 60 = ((128 : Nat) : Int) from rfl) (fun _ => ?_) (fun q => absurd trivial q)
            have en : Ex n = [n] := by rw [hE n, hs]
            refine nxt (mk ||| 2 ^ n) _ h2 (set_lt hm (by omega)) (fun y hy => (bt_or _ _ _).mpr (Or.inl hy)) (fun _ => (bt_set (by omega)).mpr (Or.inr rfl)) (fun y hy hb2 => ?_) S2 (f1.trans f2) _ rfl
            by_cases e9 : y = n
            · rw [if_pos e9, e9, en]
              exact Or.inl ⟨Nat.le_of_ble_eq_true rfl, rfl⟩
            · rw [if_neg e9]
              exact hG y hy (((bt_set (by omega)).mp hb2).resolve_right e9)
          | some q =>
            have hql := (hS n q hs).2.1
            obtain ⟨t1, t2, t3⟩ := bx_tl hX hql
            rw [pI_some]
            refine callVR_ok (ci := 7) (T := TX5) (N := 3) (av := [vI q]) (r := []) X E (s5_endOf h1 S1 hib hN1 t1) lkX5_endOf mlX0_81 lmX5_endOf lpX5_endOf ⟨Nat.le_of_ble_eq_true rfl, Nat.le_of_ble_eq_true rfl⟩ ⟨Nat.le_of_ble_eq_true rfl, Nat.le_of_ble_eq_true rfl⟩ rfl ⟨_, (S1 ib hib).2.1⟩ (Nat.le_of_ble_eq_true rfl) (dk rfl) ?_
            rintro _ rfl
            iterate 3 refine fst1_ok X (dk rfl) rfl ?_
            refine br_ok X (dk rfl) rfl (show ((46 : Nat) : Int) + 25 = ((71 : Nat) : Int) from rfl) (fun _ => ?_) (fun q => absurd (nI_m1 (by omega)) q)
            iterate 5 refine fst1_ok X (dk rfl) rfl ?_
            rw [bit8 hm (by omega)]
            by_cases hbn : bt mk n
            · rw [show mk >>> n % 2 = 1 from hbn]
              refine br_ok X (dk rfl) rfl (show ((77 : Nat) : Int) + 51 = ((128 : Nat) : Int) from rfl) (fun _ => ?_) (fun q => absurd (by decide) q)
              exact nxt mk G h1 hm (fun y hy => hy) (fun _ => hbn) hG S1 f1 _ rfl
            · have h0 : mk >>> n % 2 = 0 := by
                have := Nat.mod_two_eq_zero_or_one (mk >>> n)
                rcases this with z | z
                · exact z
                · exact absurd z hbn
              rw [h0]
              refine br_ok X (dk rfl) rfl (show ((77 : Nat) : Int) + 51 = ((128 : Nat) : Int) from rfl) (fun q => absurd (show nI 0 = 0 by decide) q) (fun _ => ?_)
              iterate 3 refine fst1_ok X (dk rfl) rfl ?_
              refine callVR_ok (ci := 7) (T := TX5) (N := 3) (av := [vI q, vI (q + tl Xx q)]) (r := []) X E (s5_namesIn h1 S1 hib hN1 (a := q) (b := q + tl Xx q) (by omega) t3) lkX5_namesIn mlX0_95 lmX5_namesIn lpX5_namesIn ⟨Nat.le_of_ble_eq_true rfl, Nat.le_of_ble_eq_true rfl⟩ ⟨Nat.le_of_ble_eq_true rfl, Nat.le_of_ble_eq_true rfl⟩ rfl ⟨_, (S1 ib hib).2.1⟩ (Nat.le_of_ble_eq_true rfl) (dk rfl) ?_
              rintro _ rfl
              rw [Nat.add_sub_cancel_left, show (Xx.drop q).take (tl Xx q) = sub' Xx q from rfl]
              iterate 4 refine fst1_ok X (dk rfl) rfl ?_
              have tq := sub_TW hX hql
              have hin := in_set (namesN_lt tq.2) hm
              by_cases hall : ∀ y, y < 8 → bt (namesN (sub' Xx q)) y → bt mk y
              · refine br_ok X (dk rfl) rfl (show ((92 : Nat) : Int) + 36 = ((128 : Nat) : Int) from rfl) (fun q => absurd (hin.mpr hall) q) (fun _ => ?_)
                refine fst1_ok X (dk rfl) rfl ?_
                refine getf_ok X flX0_11 (dk rfl) p1 rfl ?_
                refine fst1_ok X (dk rfl) rfl ?_
                refine aldr_ok X (Or.inl rfl) (dk rfl) p2 (by omega) (rgB_get B f (k := n) (by omega)) ?_
                refine callVT_ok (ci := 7) (T := TX5) (N := 3) (av := []) (r := []) X E (s5_empty h1 Y S1 (i := f + n) (by omega)) lkX5_empty mlX0_57 lmX5_empty lpX5_empty ⟨Nat.le_of_ble_eq_true rfl, Nat.le_of_ble_eq_true rfl⟩ ⟨Nat.le_of_ble_eq_true rfl, Nat.le_of_ble_eq_true rfl⟩ rfl (S1 (f + n) (by omega)).2.1 (Nat.le_of_ble_eq_true rfl) (dk rfl) (fun h2 S2 f2 => ?_)
                rw [upK_one (by omega)] at S2
                have q1 := (f1.trans f2).keep S o1 (by decide) (by decide)
                have q2 := (f1.trans f2).keep S o2 (by decide) (by decide)
                iterate 5 refine fst1_ok X (dk rfl) rfl ?_
                refine getf_ok X flX0_11 (dk rfl) q1 rfl ?_
                refine fst1_ok X (dk rfl) rfl ?_
                refine aldr_ok X (Or.inl rfl) (dk rfl) q2 (by omega) (rgB_get B f (k := n) (by omega)) ?_
                have eb2 : upK F f (fun y => if y = n then (([], false) : TC) else G y) 8 ib = F ib := upK_out F f _ hbf
                have hN2 : TN (upK F f (fun y => if y = n then (([], false) : TC) else G y) 8 ib) Xx := by rw [eb2]; exact hN
                have hmem : ∀ y ∈ (Xx.drop q).take (q + tl Xx q - q), y ∈ sub' Xx q := fun y hy => by rw [Nat.add_sub_cancel_left] at hy; exact hy
                have hne : ∀ y ∈ sub' Xx q, y < 8 → y ≠ n := fun y hy h8 z => by
                  have := rk2 n q hs y hy (by omega)
                  rw [z] at this
                  exact absurd this (Nat.lt_irrefl _)
                refine callVT_ok (ci := 2) (T := TX0) (N := 1) (av := [.ref (B ib), vI q, vI (q + tl Xx q), .ref (B (f + n))]) (r := []) X E (s0_addUsedT h2 Y S2 (O.keep S (f1.trans f2)) hib hN2 (i2 := f + n) (by omega) (by omega) (a := q) (b := q + tl Xx q) (by omega) t3 (fun y hy h8 z => hne y (hmem y hy) h8 (by omega))) lkX0_addUsed mlX0_60 lmX0_addUsed lpX0_addUsed ⟨Nat.le_of_ble_eq_true rfl, Nat.le_of_ble_eq_true rfl⟩ ⟨Nat.le_of_ble_eq_true rfl, Nat.le_of_ble_eq_true rfl⟩ rfl (O.keep S (f1.trans f2)).2.choose_spec.1 (Nat.le_of_ble_eq_true rfl) (dk rfl) (fun h3 S3 f3 => ?_)
                rw [Nat.add_sub_cancel_left, show (Xx.drop q).take (tl Xx q) = sub' Xx q from rfl, hrm n (by omega), upK_in F f _ (show n < 8 by omega), upK_one (by omega), if_pos rfl] at S3
                iterate 6 refine fst1_ok X (dk rfl) rfl ?_
                rw [shl1 n (by omega), nI_or]
                have en : Ex n = exF Ex (sub' Xx q) := by rw [hE n, hs]
                refine nxt (mk ||| 2 ^ n) _ h3 (set_lt hm (by omega)) (fun y hy => (bt_or _ _ _).mpr (Or.inl hy)) (fun _ => (bt_set (by omega)).mpr (Or.inr rfl)) (fun y hy hb2 => ?_) S3 ((f1.trans f2).trans f3) _ rfl
                by_cases e9 : y = n
                · rw [if_pos e9, e9, en]
                  have := auC_rep (u := f) (F := upK F f (fun y => if y = n then (([], false) : TC) else G y) 8) (E := Ex) (sub' Xx q) ([], false) [] tq.2 (fun z hz h8 => by
                    rw [upK_in F f _ h8]
                    show RP16 (if z = n then (([], false) : TC) else G z) (Ex z)
                    rw [if_neg (hne z hz h8)]
                    exact hG z h8 (hall z h8 ((namesN_mem (by omega) _).mpr hz))) (Or.inl ⟨Nat.zero_le _, rfl⟩)
                  exact this
                · rw [if_neg e9, if_neg e9]
                  exact hG y hy (((bt_set (by omega)).mp hb2).resolve_right e9)
              · refine br_ok X (dk rfl) rfl (show ((92 : Nat) : Int) + 36 = ((128 : Nat) : Int) from rfl) (fun _ => ?_) (fun q => absurd (fun z => hall (hin.mp z)) q)
                exact nxt mk G h1 hm (fun y hy => hy) (fun hh => absurd (fun y hy hb2 => hsub y (hh q hs y ((namesN_mem (by omega) _).mp hb2) hy)) hall) hG S1 f1 _ rfl
      iterate 2 refine fst1_ok X (dk rfl) rfl ?_
      exact inner 8 0 mk0 G0 h0 rfl hm0 (fun y hy => hy) (fun y hy => absurd hy (Nat.not_lt_zero y)) hG0 S0 f0 _ rfl
  iterate 4 refine fst1_ok X (dk rfl) rfl ?_
  refine outer 8 0 0 (fun n => F (f + n)) h rfl (by decide) (Or.inr (Nat.zero_le _)) (fun n hn hb => ?_) ?_ (FrT.rf h) _ rfl
  · unfold bt at hb
    rw [Nat.zero_shiftRight] at hb
    cases hb
  · have e0 : upK F f (fun n => F (f + n)) 8 = F := by
      funext j
      by_cases hj : f ≤ j ∧ j < f + 8
      · obtain ⟨n, rfl⟩ : ∃ n, j = f + n := ⟨j - f, by omega⟩
        rw [upK_in F f _ (by omega)]
      · rw [upK_out F f _ (by omega)]
    rw [e0]
    exact S
end S16
end Uc16whole
