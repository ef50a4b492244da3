/-! new objects of the class, strongly: what is new is apart (printed by wip/p20/genN1.py) -/
theorem TmX.kp {h h' : AH} {b q L : Nat} {c : TC} (T : TmX h b q L c) (k : ∀ (a : Nat) (cc : AC), (a = b ∨ a = q) → h a = some cc → h' a = some cc) : TmX h' b q L c := by
  obtain ⟨t1, t2, xs, t3, t4⟩ := T
  exact ⟨t1, k _ _ (Or.inl rfl) t2, xs, k _ _ (Or.inr rfl) t3, t4⟩
/-- new terms and rows, each of its own; all else but ex stays -/
def KL (ex : Nat → Prop) (h h' : AH) (ts : List (Nat × Nat × Nat × TC)) (rs : List (Nat × Nat)) : Prop :=
  (∀ (a : Nat) (c : AC), ¬ ex a → h a = some c → h' a = some c) ∧ (ts.map (fun t => t.1)).Nodup ∧ (ts.map (fun t => t.2.1)).Nodup ∧ (rs.map (fun r => r.1)).Nodup ∧ (∀ t ∈ ts, ∀ r ∈ rs, t.2.1 ≠ r.1) ∧
  (∀ t ∈ ts, h t.1 = none ∧ h t.2.1 = none ∧ ¬ ex t.1 ∧ ¬ ex t.2.1 ∧ TmX h' t.1 t.2.1 t.2.2.1 t.2.2.2) ∧ ∀ r ∈ rs, h r.1 = none ∧ ¬ ex r.1 ∧ ∃ xs : List Int32, h' r.1 = some (107, xs.map Value.int) ∧ xs.length = r.2
section KLs
variable {ex : Nat → Prop} {h h1 h2 : AH} {ts ts2 : List (Nat × Nat × Nat × TC)} {rs rs2 : List (Nat × Nat)}
theorem KL.rf (ex : Nat → Prop) (h : AH) : KL ex h h [] [] := ⟨fun _ _ _ e => e, List.nodup_nil, List.nodup_nil, List.nodup_nil, fun t ht => (by cases ht), fun t ht => (by cases ht), fun t ht => (by cases ht)⟩
theorem KL.b1 (A : KL ex h h1 ts rs) {t : Nat × Nat × Nat × TC} (ht : t ∈ ts) : h1 t.1 ≠ none ∧ h1 t.2.1 ≠ none := by
  obtain ⟨-, -, -, -, -, t2, xs, t3, -⟩ := A.2.2.2.2.2.1 t ht
  exact ⟨(by rw [t2]; intro z; cases z), (by rw [t3]; intro z; cases z)⟩
theorem KL.b2 (A : KL ex h h1 ts rs) {r : Nat × Nat} (hr : r ∈ rs) : h1 r.1 ≠ none := by
  obtain ⟨-, -, xs, t3, -⟩ := A.2.2.2.2.2.2 r hr
  rw [t3]
  intro z
  cases z
theorem KL.tr (A : KL ex h h1 ts rs) (K : KL ex h1 h2 ts2 rs2) : KL ex h h2 (ts ++ ts2) (rs ++ rs2) := by
  have bk : ∀ a, ¬ ex a → h1 a = none → h a = none := fun a ne e => by
    cases z : h a with
    | none => rfl
    | some c => rw [A.1 a c ne z] at e; cases e
  have e1 := fun {t : Nat × Nat × Nat × TC} (ht : t ∈ ts) => A.b1 ht
  have e2 := fun {r : Nat × Nat} (hr : r ∈ rs) => A.b2 hr
  obtain ⟨a1, a2, a3, a4, a5, a6, a7⟩ := A
  obtain ⟨k1, k2, k3, k4, k5, k6, k7⟩ := K
  refine ⟨fun a c ne e => k1 a c ne (a1 a c ne e), ?_, ?_, ?_, fun t ht r hr => ?_, fun t ht => ?_, fun r hr => ?_⟩
  · rw [List.map_append]
    refine List.nodup_append.mpr ⟨a2, k2, fun x hx y hy z => ?_⟩
    obtain ⟨t, ht, rfl⟩ := List.mem_map.mp hx
    obtain ⟨u, hu, rfl⟩ := List.mem_map.mp hy
    exact (e1 ht).1 (by rw [z]; exact (k6 u hu).1)
  · rw [List.map_append]
    refine List.nodup_append.mpr ⟨a3, k3, fun x hx y hy z => ?_⟩
    obtain ⟨t, ht, rfl⟩ := List.mem_map.mp hx
    obtain ⟨u, hu, rfl⟩ := List.mem_map.mp hy
    exact (e1 ht).2 (by rw [z]; exact (k6 u hu).2.1)
  · rw [List.map_append]
    refine List.nodup_append.mpr ⟨a4, k4, fun x hx y hy z => ?_⟩
    obtain ⟨t, ht, rfl⟩ := List.mem_map.mp hx
    obtain ⟨u, hu, rfl⟩ := List.mem_map.mp hy
    exact e2 ht (by rw [z]; exact (k7 u hu).1)
  · rcases List.mem_append.mp ht with ht | ht
    · rcases List.mem_append.mp hr with hr | hr
      · exact a5 t ht r hr
      · intro z
        exact (e1 ht).2 (by rw [z]; exact (k7 r hr).1)
    · rcases List.mem_append.mp hr with hr | hr
      · intro z
        exact e2 hr (by rw [← z]; exact (k6 t ht).2.1)
      · exact k5 t ht r hr
  · rcases List.mem_append.mp ht with ht | ht
    · obtain ⟨q1, q2, q3, q4, q5⟩ := a6 t ht
      exact ⟨q1, q2, q3, q4, q5.kp (fun a cc ha e => k1 a cc (by rcases ha with rfl | rfl <;> assumption) e)⟩
    · obtain ⟨q1, q2, q3, q4, q5⟩ := k6 t ht
      exact ⟨bk _ q3 q1, bk _ q4 q2, q3, q4, q5⟩
  · rcases List.mem_append.mp hr with hr | hr
    · obtain ⟨q1, q2, xs, q3, q4⟩ := a7 r hr
      exact ⟨q1, q2, xs, k1 _ _ q2 q3, q4⟩
    · obtain ⟨q1, q2, q3⟩ := k7 r hr
      exact ⟨bk _ q2 q1, q2, q3⟩
theorem KL.set (A : KL ex h h1 ts rs) {a : Nat} (ha : ex a) (c : AC) : KL ex h (hup h1 a c) ts rs := by
  obtain ⟨a1, a2, a3, a4, a5, a6, a7⟩ := A
  have ne : ∀ b, ¬ ex b → hup h1 a c b = h1 b := fun b hb => hup_ne _ _ (fun z => hb (by rw [z]; exact ha))
  refine ⟨fun b cc hb e => by rw [ne b hb]; exact a1 b cc hb e, a2, a3, a4, a5, fun t ht => ?_, fun r hr => ?_⟩
  · obtain ⟨q1, q2, q3, q4, q5⟩ := a6 t ht
    exact ⟨q1, q2, q3, q4, q5.kp (fun b cc hb e => by rw [ne b (by rcases hb with rfl | rfl <;> assumption)]; exact e)⟩
  · obtain ⟨q1, q2, xs, q3, q4⟩ := a7 r hr
    exact ⟨q1, q2, xs, by rw [ne _ q2]; exact q3, q4⟩
theorem KL.row (xo : ∀ a, ex a → h a ≠ none) {q : Nat} (hq : h q = none) (N : Nat) : KL ex h (hup h q (107, (List.replicate N (0 : Int32)).map Value.int)) [] [(q, N)] := by
  refine ⟨fun a c _ e => by rw [hup_ne _ _ (fun z => by rw [z, hq] at e; cases e)]; exact e, List.nodup_nil, List.nodup_nil, (by simp), fun t ht => (by cases ht), fun t ht => (by cases ht), fun r hr => ?_⟩
  rw [List.mem_singleton.mp hr]
  exact ⟨hq, fun z => xo q z hq, _, hup_self _ _ _, List.length_replicate⟩
theorem KL.term (xo : ∀ a, ex a → h a ≠ none) {u q L : Nat} {c0 : AC} (hu : h u = none) (hq : hup h u c0 q = none) : KL ex h (hup (hup (hup h u c0) q (107, (List.replicate L (0 : Int32)).map Value.int)) u (7, [.ref q, vI 0, .int (bI false)])) [(u, q, L, ([], false))] [] := by
  have hqu : q ≠ u := fun z => by rw [z, hup_self] at hq; cases hq
  have hq0 : h q = none := by rw [hup_ne _ _ hqu] at hq; exact hq
  refine ⟨fun a c _ e => ?_, (by simp), (by simp), List.nodup_nil, fun t _ r hr => (by cases hr), fun t ht => ?_, fun r hr => (by cases hr)⟩
  · have n1 : a ≠ u := fun z => by rw [z, hu] at e; cases e
    have n2 : a ≠ q := fun z => by rw [z, hq0] at e; cases e
    rw [hup_ne _ _ n1, hup_ne _ _ n2, hup_ne _ _ n1]
    exact e
  · rw [List.mem_singleton.mp ht]
    exact ⟨hu, hq0, fun z => xo u z hu, fun z => xo q z hq0, Nat.zero_le _, hup_self _ _ _, _, by show hup _ u _ q = _; rw [hup_ne _ _ hqu, hup_self], List.length_replicate, rfl⟩
theorem KL.nest (xo : ∀ a, ex a → h a ≠ none) {u : Nat} {c0 : AC} (hu : h u = none) (N : KL (fun a => a = u) (hup h u c0) h2 ts rs) : KL ex h h2 ts rs := by
  obtain ⟨a1, a2, a3, a4, a5, a6, a7⟩ := N
  have nn : ∀ a, hup h u c0 a = none → h a = none := fun a e => by
    rw [hup_ne _ _ (fun z => by rw [z, hup_self] at e; cases e)] at e
    exact e
  refine ⟨fun a c _ e => ?_, a2, a3, a4, a5, fun t ht => ?_, fun r hr => ?_⟩
  · have n1 : a ≠ u := fun z => by rw [z, hu] at e; cases e
    exact a1 a c n1 (by rw [hup_ne _ _ n1]; exact e)
  · obtain ⟨q1, q2, q3, q4, q5⟩ := a6 t ht
    exact ⟨nn _ q1, nn _ q2, fun z => xo _ z (nn _ q1), fun z => xo _ z (nn _ q2), q5⟩
  · obtain ⟨q1, q2, q3⟩ := a7 r hr
    exact ⟨nn _ q1, fun z => xo _ z (nn _ q1), q3⟩
end KLs
section F01
variable {la : Launch} {D : va_G} {cA : Nat → ClassId} {B0 pa : Nat}
set_option maxHeartbeats 8000000 in
theorem n5_init (h : AH) {o L : Nat} (hL : L ≤ 256) (ho : h o = some (7, [.null, .int 0, .int 0])) : CT la D cA B0 pa yX5_init cX5_init 2 none (rmD 1 1 L) [.ref o, vI L] h (fun v h' => v = none ∧ ∃ q, h q = none ∧ h' = hup (hup h q (107, (List.replicate L (0 : Int32)).map Value.int)) o (7, [.ref q, vI 0, .int (bI false)])) := by
  refine CT_of (by decide +kernel) (Nat.le_of_ble_eq_true rfl) ?_
  intro p e s m args below meth c X E hr hlk hnm
  have dk : ∀ {pc : Nat} {q : Instr × Nat}, lkd DX5_init pc = some q → decode cX5_init pc = .ok q := lkd_ok DX5_init_ok
  refine fst1_ok X (dk rfl) rfl ?_
  refine obj_ok X ml5_obj (dk rfl) (Nat.le_of_ble_eq_true rfl) (Nat.le_of_ble_eq_true rfl) (Nat.le_of_ble_eq_true rfl) ?_
  iterate 3 refine fst1_ok X (dk rfl) rfl ?_
  refine mmax_ok X (y := 0) (by omega) (by omega) mlX5_9 (dk rfl) (Nat.le_refl 1) (Nat.le_of_ble_eq_true rfl) (Nat.zero_le _) (Nat.zero_le _) ?_
  rw [Nat.max_eq_left (Nat.zero_le L)]
  have e1 : (nI L).toNatClampNeg = L := nI_clamp (by omega)
  refine newa7_ok X acInt (dk rfl) (nI_pos (by omega)) (by rw [e1]; omega) (by show 0 + 1 ≤ 1; omega) (by rw [e1]; show 0 + L ≤ L; omega) (fun q hq hBq => ?_)
  rw [e1]
  have hoq : o ≠ q := fun z => by rw [z, hq] at ho; cases ho
  refine putf_ok X flX5_15 ftX5_0 (Or.inr ⟨by rw [hnm]; rfl, RX5, TX5, 3, rfl, rfl⟩) rfl rfl (dk rfl) (by rw [hup_ne _ _ hoq]; exact ho) (Nat.le_of_ble_eq_true rfl) ?_
  exact retv_ok X hr hlk (dk rfl) ⟨rfl, q, hq, rfl⟩ (by show 0 + 1 ≤ 1; omega) (by show 0 + L ≤ L; omega)
set_option maxHeartbeats 16000000 in
theorem n2_init (h : AH) {o : Nat} (ho : h o = some (4, [.null, .null, .int 0])) : CT la D cA B0 pa yX2_init cX2_init 1 none (rmD 1 2 256) [.ref o] h (fun v h' => v = none ∧ ∃ q1 q2, h' o = some (4, [.ref q1, .ref q2, vI 0]) ∧ KL (fun a => a = o) h h' [] [(q1, 128), (q2, 128)]) := by
  refine CT_of (by decide +kernel) (Nat.le_of_ble_eq_true rfl) ?_
  intro p e s m args below meth c X E hr hlk hnm
  have dk : ∀ {pc : Nat} {q : Instr × Nat}, lkd DX2_init pc = some q → decode cX2_init pc = .ok q := lkd_ok DX2_init_ok
  refine fst1_ok X (dk rfl) rfl ?_
  refine obj_ok X ml2_obj (dk rfl) (Nat.le_of_ble_eq_true rfl) (Nat.le_of_ble_eq_true rfl) (Nat.le_of_ble_eq_true rfl) ?_
  have xo : ∀ {hh : AH} {cc : AC}, hh o = some cc → ∀ a, a = o → hh a ≠ none := fun {hh cc} e a z w => by rw [z, e] at w; cases w
  have K0 := KL.rf (fun a => a = o) h
  have o0 := ho
  iterate 2 refine fst1_ok X (dk rfl) rfl ?_
  rw [show (Int16.ofInt 128).toInt32 = nI 128 by decide +kernel]
  have e1 : (nI 128).toNatClampNeg = 128 := nI_clamp (by omega)
  refine newa7_ok X acInt (dk rfl) (nI_pos (by omega)) (by rw [e1]; omega) (Nat.le_of_ble_eq_true rfl) (by rw [e1]; exact Nat.le_of_ble_eq_true rfl) (fun u1 hu1 hBu1 => ?_)
  rw [e1]
  have K1b := KL.row (ex := fun a => a = o) (xo o0) hu1 128
  have K1a := K0.tr K1b
  have o1a : (hup h u1 (107, (List.replicate 128 (0 : Int32)).map Value.int)) o = some (4, [.null, .null, .int 0]) := by rw [hup_ne _ _ (fun z => by rw [← z, o0] at hu1; cases hu1)]; exact o0
  refine putf_ok X flX2_11 ftX2_0 (Or.inr ⟨by rw [hnm]; rfl, RX2, TX2, 3, rfl, rfl⟩) rfl rfl (dk rfl) o1a (Nat.le_of_ble_eq_true rfl) ?_
  have o1 : hup (hup h u1 (107, (List.replicate 128 (0 : Int32)).map Value.int)) o (4, ([.null, .null, .int 0] : List Value).set 0 (.ref u1)) o = some (4, [.ref u1, .null, .int 0]) := hup_self _ _ _
  have K1 := K1a.set (a := o) rfl (4, ([.null, .null, .int 0] : List Value).set 0 (.ref u1))
  generalize hup (hup h u1 (107, (List.replicate 128 (0 : Int32)).map Value.int)) o (4, ([.null, .null, .int 0] : List Value).set 0 (.ref u1)) = H1 at o1 K1
  iterate 2 refine fst1_ok X (dk rfl) rfl ?_
  rw [show (Int16.ofInt 128).toInt32 = nI 128 by decide +kernel]
  have e2 : (nI 128).toNatClampNeg = 128 := nI_clamp (by omega)
  refine newa7_ok X acInt (dk rfl) (nI_pos (by omega)) (by rw [e2]; omega) (Nat.le_of_ble_eq_true rfl) (by rw [e2]; exact Nat.le_of_ble_eq_true rfl) (fun u2 hu2 hBu2 => ?_)
  rw [e2]
  have K2b := KL.row (ex := fun a => a = o) (xo o1) hu2 128
  have K2a := K1.tr K2b
  have o2a : (hup H1 u2 (107, (List.replicate 128 (0 : Int32)).map Value.int)) o = some (4, [.ref u1, .null, .int 0]) := by rw [hup_ne _ _ (fun z => by rw [← z, o1] at hu2; cases hu2)]; exact o1
  refine putf_ok X flX2_15 ftX2_1 (Or.inr ⟨by rw [hnm]; rfl, RX2, TX2, 3, rfl, rfl⟩) rfl rfl (dk rfl) o2a (Nat.le_of_ble_eq_true rfl) ?_
  have o2 : hup (hup H1 u2 (107, (List.replicate 128 (0 : Int32)).map Value.int)) o (4, ([.ref u1, .null, .int 0] : List Value).set 1 (.ref u2)) o = some (4, [.ref u1, .ref u2, .int 0]) := hup_self _ _ _
  have K2 := K2a.set (a := o) rfl (4, ([.ref u1, .null, .int 0] : List Value).set 1 (.ref u2))
  generalize hup (hup H1 u2 (107, (List.replicate 128 (0 : Int32)).map Value.int)) o (4, ([.ref u1, .null, .int 0] : List Value).set 1 (.ref u2)) = H2 at o2 K2
  exact retv_ok X hr hlk (dk rfl) (⟨rfl, u1, u2, o2, K2⟩) (Nat.le_of_ble_eq_true rfl) (Nat.le_of_ble_eq_true rfl)
set_option maxHeartbeats 16000000 in
theorem n3_init (h : AH) {o : Nat} (ho : h o = some (5, [.null])) : CT la D cA B0 pa yX3_init cX3_init 1 none (rmD 2 3 259) [.ref o] h (fun v h' => v = none ∧ ∃ pb q1 q2, h' o = some (5, [.ref pb]) ∧ h' pb = some (4, [.ref q1, .ref q2, vI 0]) ∧ h pb = none ∧ KL (fun a => a = o) h h' [] [(q1, 128), (q2, 128)]) := by
  refine CT_of (by decide +kernel) (Nat.le_of_ble_eq_true rfl) ?_
  intro p e s m args below meth c X E hr hlk hnm
  have dk : ∀ {pc : Nat} {q : Instr × Nat}, lkd DX3_init pc = some q → decode cX3_init pc = .ok q := lkd_ok DX3_init_ok
  refine fst1_ok X (dk rfl) rfl ?_
  refine obj_ok X ml3_obj (dk rfl) (Nat.le_of_ble_eq_true rfl) (Nat.le_of_ble_eq_true rfl) (Nat.le_of_ble_eq_true rfl) ?_
  have xo : ∀ {hh : AH} {cc : AC}, hh o = some cc → ∀ a, a = o → hh a ≠ none := fun {hh cc} e a z w => by rw [z, e] at w; cases w
  have K0 := KL.rf (fun a => a = o) h
  have o0 := ho
  refine fst1_ok X (dk rfl) rfl ?_
  refine new_ok X nc3_9 (dk rfl) (by first | exact Nat.le_of_ble_eq_true rfl | (show _ ≤ _; omega)) (by first | exact Nat.le_of_ble_eq_true rfl | (show _ ≤ _; omega)) (fun u1 hu1 hBu1 => ?_)
  refine fst1_ok X (dk rfl) rfl ?_
  refine callIN_ok (av := []) (r := [.ref u1, .ref o]) X E (n2_init _ (hup_self _ _ _)) lkX2_init mnX3_11 lmX2_init rfl ⟨Nat.le_of_ble_eq_true rfl, Nat.le_of_ble_eq_true rfl⟩ ⟨Nat.le_of_ble_eq_true rfl, Nat.le_of_ble_eq_true rfl⟩ (Nat.le_of_ble_eq_true rfl) (dk rfl) ?_
  rintro v H1a ⟨rfl, g1, g2, hpb, N1⟩
  have K1b := KL.nest (ex := fun a => a = o) (xo o0) hu1 N1
  have K1a := K0.tr K1b
  have o1a : H1a o = some (5, [.null]) := by
    have nu : o ≠ u1 := fun z => by rw [← z, o0] at hu1; cases hu1
    exact N1.1 o _ nu (by rw [hup_ne _ _ nu]; exact o0)
  refine putf_ok X flX3_12 ftX3_0 (Or.inr ⟨by rw [hnm]; rfl, RX3, TX3, 1, rfl, rfl⟩) rfl rfl (dk rfl) o1a (Nat.le_of_ble_eq_true rfl) ?_
  have o1 : hup H1a o (5, ([.null] : List Value).set 0 (.ref u1)) o = some (5, [.ref u1]) := hup_self _ _ _
  have K1 := K1a.set (a := o) rfl (5, ([.null] : List Value).set 0 (.ref u1))
  have hpb : hup H1a o (5, ([.null] : List Value).set 0 (.ref u1)) u1 = some (4, [.ref g1, .ref g2, vI 0]) := by rw [hup_ne _ _ (k_ne hpb o1a (by decide))]; exact hpb
  generalize hup H1a o (5, ([.null] : List Value).set 0 (.ref u1)) = H1 at o1 K1 hpb
  exact retv_ok X hr hlk (dk rfl) (⟨rfl, u1, g1, g2, o1, hpb, hu1, K1⟩) (Nat.le_of_ble_eq_true rfl) (Nat.le_of_ble_eq_true rfl)
set_option maxHeartbeats 16000000 in
theorem n4_init (h : AH) {o : Nat} (ho : h o = some (6, [.null, .null, .null, .int 0, .int 0])) : CT la D cA B0 pa yX4_init cX4_init 1 none (rmD 2 6 302) [.ref o] h (fun v h' => v = none ∧ ∃ b1 b2 r1 pb q1 q2, h' o = some (6, [.ref b1, .ref r1, .ref pb, .int 0, .int 0]) ∧ h' pb = some (4, [.ref q1, .ref q2, vI 0]) ∧ KL (fun a => a = o) h h' [(b1, b2, 32, ([], false))] [(r1, 8), (q1, 128), (q2, 128)]) := by
  refine CT_of (by decide +kernel) (Nat.le_of_ble_eq_true rfl) ?_
  intro p e s m args below meth c X E hr hlk hnm
  have dk : ∀ {pc : Nat} {q : Instr × Nat}, lkd DX4_init pc = some q → decode cX4_init pc = .ok q := lkd_ok DX4_init_ok
  refine fst1_ok X (dk rfl) rfl ?_
  refine obj_ok X ml4_obj (dk rfl) (Nat.le_of_ble_eq_true rfl) (Nat.le_of_ble_eq_true rfl) (Nat.le_of_ble_eq_true rfl) ?_
  have xo : ∀ {hh : AH} {cc : AC}, hh o = some cc → ∀ a, a = o → hh a ≠ none := fun {hh cc} e a z w => by rw [z, e] at w; cases w
  have K0 := KL.rf (fun a => a = o) h
  have o0 := ho
  refine fst1_ok X (dk rfl) rfl ?_
  refine new_ok X nc4_9 (dk rfl) (by first | exact Nat.le_of_ble_eq_true rfl | (show _ ≤ _; omega)) (by first | exact Nat.le_of_ble_eq_true rfl | (show _ ≤ _; omega)) (fun u1 hu1 hBu1 => ?_)
  iterate 2 refine fst1_ok X (dk rfl) rfl ?_
  rw [show (Int8.ofInt 32).toInt32 = nI 32 by decide +kernel]
  refine callI_ok (av := [.int (nI 32)]) (r := [.ref u1, .ref o]) X E (n5_init _ (L := 32) (by omega) (hup_self _ _ _)) lkX5_init mlX4_11 lmX5_init rfl ⟨Nat.le_of_ble_eq_true rfl, Nat.le_of_ble_eq_true rfl⟩ ⟨Nat.le_of_ble_eq_true rfl, Nat.le_of_ble_eq_true rfl⟩ (Nat.le_of_ble_eq_true rfl) (dk rfl) ?_
  rintro v H1a ⟨rfl, q1, hq1, eH1⟩
  have K1b := KL.term (ex := fun a => a = o) (L := 32) (xo o0) hu1 hq1
  rw [← eH1] at K1b
  have K1a := K0.tr K1b
  have o1a : H1a o = some (6, [.null, .null, .null, .int 0, .int 0]) := by
    have nu : o ≠ u1 := fun z => by rw [← z, o0] at hu1; cases hu1
    have nq : o ≠ q1 := fun z => by rw [← z, hup_ne _ _ nu, o0] at hq1; cases hq1
    rw [eH1, hup_ne _ _ nu, hup_ne _ _ nq, hup_ne _ _ nu]
    exact o0
  refine putf_ok X flX4_14 ftX4_0 (Or.inr ⟨by rw [hnm]; rfl, RX4, TX4, 5, rfl, rfl⟩) rfl rfl (dk rfl) o1a (Nat.le_of_ble_eq_true rfl) ?_
  have o1 : hup H1a o (6, ([.null, .null, .null, .int 0, .int 0] : List Value).set 0 (.ref u1)) o = some (6, [.ref u1, .null, .null, .int 0, .int 0]) := hup_self _ _ _
  have K1 := K1a.set (a := o) rfl (6, ([.null, .null, .null, .int 0, .int 0] : List Value).set 0 (.ref u1))
  generalize hup H1a o (6, ([.null, .null, .null, .int 0, .int 0] : List Value).set 0 (.ref u1)) = H1 at o1 K1
  iterate 2 refine fst1_ok X (dk rfl) rfl ?_
  rw [show (Int8.ofInt 8).toInt32 = nI 8 by decide +kernel]
  have e2 : (nI 8).toNatClampNeg = 8 := nI_clamp (by omega)
  refine newa7_ok X acInt (dk rfl) (nI_pos (by omega)) (by rw [e2]; omega) (Nat.le_of_ble_eq_true rfl) (by rw [e2]; exact Nat.le_of_ble_eq_true rfl) (fun u2 hu2 hBu2 => ?_)
  rw [e2]
  have K2b := KL.row (ex := fun a => a = o) (xo o1) hu2 8
  have K2a := K1.tr K2b
  have o2a : (hup H1 u2 (107, (List.replicate 8 (0 : Int32)).map Value.int)) o = some (6, [.ref u1, .null, .null, .int 0, .int 0]) := by rw [hup_ne _ _ (fun z => by rw [← z, o1] at hu2; cases hu2)]; exact o1
  refine putf_ok X flX4_20 ftX4_1 (Or.inr ⟨by rw [hnm]; rfl, RX4, TX4, 5, rfl, rfl⟩) rfl rfl (dk rfl) o2a (Nat.le_of_ble_eq_true rfl) ?_
  have o2 : hup (hup H1 u2 (107, (List.replicate 8 (0 : Int32)).map Value.int)) o (6, ([.ref u1, .null, .null, .int 0, .int 0] : List Value).set 1 (.ref u2)) o = some (6, [.ref u1, .ref u2, .null, .int 0, .int 0]) := hup_self _ _ _
  have K2 := K2a.set (a := o) rfl (6, ([.ref u1, .null, .null, .int 0, .int 0] : List Value).set 1 (.ref u2))
  generalize hup (hup H1 u2 (107, (List.replicate 8 (0 : Int32)).map Value.int)) o (6, ([.ref u1, .null, .null, .int 0, .int 0] : List Value).set 1 (.ref u2)) = H2 at o2 K2
  refine fst1_ok X (dk rfl) rfl ?_
  refine new_ok X nc4_24 (dk rfl) (by first | exact Nat.le_of_ble_eq_true rfl | (show _ ≤ _; omega)) (by first | exact Nat.le_of_ble_eq_true rfl | (show _ ≤ _; omega)) (fun u3 hu3 hBu3 => ?_)
  refine fst1_ok X (dk rfl) rfl ?_
  refine callIN_ok (av := []) (r := [.ref u3, .ref o]) X E (n2_init _ (hup_self _ _ _)) lkX2_init mnX4_26 lmX2_init rfl ⟨Nat.le_of_ble_eq_true rfl, Nat.le_of_ble_eq_true rfl⟩ ⟨Nat.le_of_ble_eq_true rfl, Nat.le_of_ble_eq_true rfl⟩ (Nat.le_of_ble_eq_true rfl) (dk rfl) ?_
  rintro v H3a ⟨rfl, g1, g2, hpb, N3⟩
  have K3b := KL.nest (ex := fun a => a = o) (xo o2) hu3 N3
  have K3a := K2.tr K3b
  have o3a : H3a o = some (6, [.ref u1, .ref u2, .null, .int 0, .int 0]) := by
    have nu : o ≠ u3 := fun z => by rw [← z, o2] at hu3; cases hu3
    exact N3.1 o _ nu (by rw [hup_ne _ _ nu]; exact o2)
  refine putf_ok X flX4_27 ftX4_2 (Or.inr ⟨by rw [hnm]; rfl, RX4, TX4, 5, rfl, rfl⟩) rfl rfl (dk rfl) o3a (Nat.le_of_ble_eq_true rfl) ?_
  have o3 : hup H3a o (6, ([.ref u1, .ref u2, .null, .int 0, .int 0] : List Value).set 2 (.ref u3)) o = some (6, [.ref u1, .ref u2, .ref u3, .int 0, .int 0]) := hup_self _ _ _
  have K3 := K3a.set (a := o) rfl (6, ([.ref u1, .ref u2, .null, .int 0, .int 0] : List Value).set 2 (.ref u3))
  have hpb : hup H3a o (6, ([.ref u1, .ref u2, .null, .int 0, .int 0] : List Value).set 2 (.ref u3)) u3 = some (4, [.ref g1, .ref g2, vI 0]) := by rw [hup_ne _ _ (k_ne hpb o3a (by decide))]; exact hpb
  generalize hup H3a o (6, ([.ref u1, .ref u2, .null, .int 0, .int 0] : List Value).set 2 (.ref u3)) = H3 at o3 K3 hpb
  exact retv_ok X hr hlk (dk rfl) (⟨rfl, u1, q1, u2, u3, g1, g2, o3, hpb, K3⟩) (Nat.le_of_ble_eq_true rfl) (Nat.le_of_ble_eq_true rfl)
set_option maxHeartbeats 16000000 in
theorem n1_init (h : AH) {o : Nat} (ho : h o = some (3, [.null, .null, .null, .null, .null])) : CT la D cA B0 pa yX1_init cX1_init 1 none (rmD 2 8 366) [.ref o] h (fun v h' => v = none ∧ ∃ b1 b2 r1 r2 r3 pb q1 q2, h' o = some (3, [.ref b1, .ref r1, .ref r2, .ref r3, .ref pb]) ∧ h' pb = some (4, [.ref q1, .ref q2, vI 0]) ∧ KL (fun a => a = o) h h' [(b1, b2, 32, ([], false))] [(r1, 32), (r2, 32), (r3, 8), (q1, 128), (q2, 128)]) := by
  refine CT_of (by decide +kernel) (Nat.le_of_ble_eq_true rfl) ?_
  intro p e s m args below meth c X E hr hlk hnm
  have dk : ∀ {pc : Nat} {q : Instr × Nat}, lkd DX1_init pc = some q → decode cX1_init pc = .ok q := lkd_ok DX1_init_ok
  refine fst1_ok X (dk rfl) rfl ?_
  refine obj_ok X ml1_obj (dk rfl) (Nat.le_of_ble_eq_true rfl) (Nat.le_of_ble_eq_true rfl) (Nat.le_of_ble_eq_true rfl) ?_
  have xo : ∀ {hh : AH} {cc : AC}, hh o = some cc → ∀ a, a = o → hh a ≠ none := fun {hh cc} e a z w => by rw [z, e] at w; cases w
  have K0 := KL.rf (fun a => a = o) h
  have o0 := ho
  refine fst1_ok X (dk rfl) rfl ?_
  refine new_ok X nc1_9 (dk rfl) (by first | exact Nat.le_of_ble_eq_true rfl | (show _ ≤ _; omega)) (by first | exact Nat.le_of_ble_eq_true rfl | (show _ ≤ _; omega)) (fun u1 hu1 hBu1 => ?_)
  iterate 2 refine fst1_ok X (dk rfl) rfl ?_
  rw [show (Int8.ofInt 32).toInt32 = nI 32 by decide +kernel]
  refine callI_ok (av := [.int (nI 32)]) (r := [.ref u1, .ref o]) X E (n5_init _ (L := 32) (by omega) (hup_self _ _ _)) lkX5_init mlX1_13 lmX5_init rfl ⟨Nat.le_of_ble_eq_true rfl, Nat.le_of_ble_eq_true rfl⟩ ⟨Nat.le_of_ble_eq_true rfl, Nat.le_of_ble_eq_true rfl⟩ (Nat.le_of_ble_eq_true rfl) (dk rfl) ?_
  rintro v H1a ⟨rfl, q1, hq1, eH1⟩
  have K1b := KL.term (ex := fun a => a = o) (L := 32) (xo o0) hu1 hq1
  rw [← eH1] at K1b
  have K1a := K0.tr K1b
  have o1a : H1a o = some (3, [.null, .null, .null, .null, .null]) := by
    have nu : o ≠ u1 := fun z => by rw [← z, o0] at hu1; cases hu1
    have nq : o ≠ q1 := fun z => by rw [← z, hup_ne _ _ nu, o0] at hq1; cases hq1
    rw [eH1, hup_ne _ _ nu, hup_ne _ _ nq, hup_ne _ _ nu]
    exact o0
  refine putf_ok X flX1_16 ftX1_0 (Or.inr ⟨by rw [hnm]; rfl, RX1, TX1, 5, rfl, rfl⟩) rfl rfl (dk rfl) o1a (Nat.le_of_ble_eq_true rfl) ?_
  have o1 : hup H1a o (3, ([.null, .null, .null, .null, .null] : List Value).set 0 (.ref u1)) o = some (3, [.ref u1, .null, .null, .null, .null]) := hup_self _ _ _
  have K1 := K1a.set (a := o) rfl (3, ([.null, .null, .null, .null, .null] : List Value).set 0 (.ref u1))
  generalize hup H1a o (3, ([.null, .null, .null, .null, .null] : List Value).set 0 (.ref u1)) = H1 at o1 K1
  iterate 2 refine fst1_ok X (dk rfl) rfl ?_
  rw [show (Int8.ofInt 32).toInt32 = nI 32 by decide +kernel]
  have e2 : (nI 32).toNatClampNeg = 32 := nI_clamp (by omega)
  refine newa7_ok X acInt (dk rfl) (nI_pos (by omega)) (by rw [e2]; omega) (Nat.le_of_ble_eq_true rfl) (by rw [e2]; exact Nat.le_of_ble_eq_true rfl) (fun u2 hu2 hBu2 => ?_)
  rw [e2]
  have K2b := KL.row (ex := fun a => a = o) (xo o1) hu2 32
  have K2a := K1.tr K2b
  have o2a : (hup H1 u2 (107, (List.replicate 32 (0 : Int32)).map Value.int)) o = some (3, [.ref u1, .null, .null, .null, .null]) := by rw [hup_ne _ _ (fun z => by rw [← z, o1] at hu2; cases hu2)]; exact o1
  refine putf_ok X flX1_20 ftX1_1 (Or.inr ⟨by rw [hnm]; rfl, RX1, TX1, 5, rfl, rfl⟩) rfl rfl (dk rfl) o2a (Nat.le_of_ble_eq_true rfl) ?_
  have o2 : hup (hup H1 u2 (107, (List.replicate 32 (0 : Int32)).map Value.int)) o (3, ([.ref u1, .null, .null, .null, .null] : List Value).set 1 (.ref u2)) o = some (3, [.ref u1, .ref u2, .null, .null, .null]) := hup_self _ _ _
  have K2 := K2a.set (a := o) rfl (3, ([.ref u1, .null, .null, .null, .null] : List Value).set 1 (.ref u2))
  generalize hup (hup H1 u2 (107, (List.replicate 32 (0 : Int32)).map Value.int)) o (3, ([.ref u1, .null, .null, .null, .null] : List Value).set 1 (.ref u2)) = H2 at o2 K2
  iterate 2 refine fst1_ok X (dk rfl) rfl ?_
  rw [show (Int8.ofInt 32).toInt32 = nI 32 by decide +kernel]
  have e3 : (nI 32).toNatClampNeg = 32 := nI_clamp (by omega)
  refine newa7_ok X acInt (dk rfl) (nI_pos (by omega)) (by rw [e3]; omega) (Nat.le_of_ble_eq_true rfl) (by rw [e3]; exact Nat.le_of_ble_eq_true rfl) (fun u3 hu3 hBu3 => ?_)
  rw [e3]
  have K3b := KL.row (ex := fun a => a = o) (xo o2) hu3 32
  have K3a := K2.tr K3b
  have o3a : (hup H2 u3 (107, (List.replicate 32 (0 : Int32)).map Value.int)) o = some (3, [.ref u1, .ref u2, .null, .null, .null]) := by rw [hup_ne _ _ (fun z => by rw [← z, o2] at hu3; cases hu3)]; exact o2
  refine putf_ok X flX1_24 ftX1_2 (Or.inr ⟨by rw [hnm]; rfl, RX1, TX1, 5, rfl, rfl⟩) rfl rfl (dk rfl) o3a (Nat.le_of_ble_eq_true rfl) ?_
  have o3 : hup (hup H2 u3 (107, (List.replicate 32 (0 : Int32)).map Value.int)) o (3, ([.ref u1, .ref u2, .null, .null, .null] : List Value).set 2 (.ref u3)) o = some (3, [.ref u1, .ref u2, .ref u3, .null, .null]) := hup_self _ _ _
  have K3 := K3a.set (a := o) rfl (3, ([.ref u1, .ref u2, .null, .null, .null] : List Value).set 2 (.ref u3))
  generalize hup (hup H2 u3 (107, (List.replicate 32 (0 : Int32)).map Value.int)) o (3, ([.ref u1, .ref u2, .null, .null, .null] : List Value).set 2 (.ref u3)) = H3 at o3 K3
  iterate 2 refine fst1_ok X (dk rfl) rfl ?_
  rw [show (Int8.ofInt 8).toInt32 = nI 8 by decide +kernel]
  have e4 : (nI 8).toNatClampNeg = 8 := nI_clamp (by omega)
  refine newa7_ok X acInt (dk rfl) (nI_pos (by omega)) (by rw [e4]; omega) (Nat.le_of_ble_eq_true rfl) (by rw [e4]; exact Nat.le_of_ble_eq_true rfl) (fun u4 hu4 hBu4 => ?_)
  rw [e4]
  have K4b := KL.row (ex := fun a => a = o) (xo o3) hu4 8
  have K4a := K3.tr K4b
  have o4a : (hup H3 u4 (107, (List.replicate 8 (0 : Int32)).map Value.int)) o = some (3, [.ref u1, .ref u2, .ref u3, .null, .null]) := by rw [hup_ne _ _ (fun z => by rw [← z, o3] at hu4; cases hu4)]; exact o3
  refine putf_ok X flX1_27 ftX1_3 (Or.inr ⟨by rw [hnm]; rfl, RX1, TX1, 5, rfl, rfl⟩) rfl rfl (dk rfl) o4a (Nat.le_of_ble_eq_true rfl) ?_
  have o4 : hup (hup H3 u4 (107, (List.replicate 8 (0 : Int32)).map Value.int)) o (3, ([.ref u1, .ref u2, .ref u3, .null, .null] : List Value).set 3 (.ref u4)) o = some (3, [.ref u1, .ref u2, .ref u3, .ref u4, .null]) := hup_self _ _ _
  have K4 := K4a.set (a := o) rfl (3, ([.ref u1, .ref u2, .ref u3, .null, .null] : List Value).set 3 (.ref u4))
  generalize hup (hup H3 u4 (107, (List.replicate 8 (0 : Int32)).map Value.int)) o (3, ([.ref u1, .ref u2, .ref u3, .null, .null] : List Value).set 3 (.ref u4)) = H4 at o4 K4
  refine fst1_ok X (dk rfl) rfl ?_
  refine new_ok X nc1_30 (dk rfl) (by first | exact Nat.le_of_ble_eq_true rfl | (show _ ≤ _; omega)) (by first | exact Nat.le_of_ble_eq_true rfl | (show _ ≤ _; omega)) (fun u5 hu5 hBu5 => ?_)
  refine fst1_ok X (dk rfl) rfl ?_
  refine callIN_ok (av := []) (r := [.ref u5, .ref o]) X E (n2_init _ (hup_self _ _ _)) lkX2_init mnX1_32 lmX2_init rfl ⟨Nat.le_of_ble_eq_true rfl, Nat.le_of_ble_eq_true rfl⟩ ⟨Nat.le_of_ble_eq_true rfl, Nat.le_of_ble_eq_true rfl⟩ (Nat.le_of_ble_eq_true rfl) (dk rfl) ?_
  rintro v H5a ⟨rfl, g1, g2, hpb, N5⟩
  have K5b := KL.nest (ex := fun a => a = o) (xo o4) hu5 N5
  have K5a := K4.tr K5b
  have o5a : H5a o = some (3, [.ref u1, .ref u2, .ref u3, .ref u4, .null]) := by
    have nu : o ≠ u5 := fun z => by rw [← z, o4] at hu5; cases hu5
    exact N5.1 o _ nu (by rw [hup_ne _ _ nu]; exact o4)
  refine putf_ok X flX1_33 ftX1_4 (Or.inr ⟨by rw [hnm]; rfl, RX1, TX1, 5, rfl, rfl⟩) rfl rfl (dk rfl) o5a (Nat.le_of_ble_eq_true rfl) ?_
  have o5 : hup H5a o (3, ([.ref u1, .ref u2, .ref u3, .ref u4, .null] : List Value).set 4 (.ref u5)) o = some (3, [.ref u1, .ref u2, .ref u3, .ref u4, .ref u5]) := hup_self _ _ _
  have K5 := K5a.set (a := o) rfl (3, ([.ref u1, .ref u2, .ref u3, .ref u4, .null] : List Value).set 4 (.ref u5))
  have hpb : hup H5a o (3, ([.ref u1, .ref u2, .ref u3, .ref u4, .null] : List Value).set 4 (.ref u5)) u5 = some (4, [.ref g1, .ref g2, vI 0]) := by rw [hup_ne _ _ (k_ne hpb o5a (by decide))]; exact hpb
  generalize hup H5a o (3, ([.ref u1, .ref u2, .ref u3, .ref u4, .null] : List Value).set 4 (.ref u5)) = H5 at o5 K5 hpb
  exact retv_ok X hr hlk (dk rfl) (⟨rfl, u1, q1, u2, u3, u4, u5, g1, g2, o5, hpb, K5⟩) (Nat.le_of_ble_eq_true rfl) (Nat.le_of_ble_eq_true rfl)
end F01
