/-! the reference's classes, 6: the terms; the constructor -/
def tsN (X : List Nat) : Nat → List (List Nat)
  | 0 => []
  | z + 1 => comeT (tsN X z) (sub' X z)
def ofN (X : List Nat) : Nat → List Nat
  | 0 => List.replicate 32 0
  | z + 1 => comeO (tsN X z) (ofN X z) (sub' X z)
theorem tsN_len (X : List Nat) : ∀ z, (tsN X z).length ≤ z
  | 0 => Nat.le_refl _
  | z + 1 => by
    have := tsN_len X z
    unfold tsN comeT
    split
    · omega
    · rw [List.length_append]
      show (tsN X z).length + 1 ≤ z + 1
      omega
theorem tsN_mem (X : List Nat) : ∀ z t, t ∈ tsN X z ↔ ∃ y, y < z ∧ t = sub' X y
  | 0, t => ⟨fun h => (by cases h), fun ⟨y, h, _⟩ => by omega⟩
  | z + 1, t => by
    have ih := tsN_mem X z t
    unfold tsN comeT
    split
    · rename_i c
      rw [ih]
      constructor
      · rintro ⟨y, h1, h2⟩
        exact ⟨y, by omega, h2⟩
      · rintro ⟨y, h1, h2⟩
        rcases Nat.lt_or_ge y z with q | q
        · exact ⟨y, q, h2⟩
        · have : y = z := by omega
          subst this
          rw [h2]
          exact (tsN_mem X y _).mp c
    · rw [List.mem_append, ih, List.mem_singleton]
      constructor
      · rintro (⟨y, h1, h2⟩ | h)
        · exact ⟨y, by omega, h2⟩
        · exact ⟨z, by omega, h⟩
      · rintro ⟨y, h1, h2⟩
        rcases Nat.lt_or_ge y z with q | q
        · exact Or.inl ⟨y, q, h2⟩
        · have : y = z := by omega
          subst this
          exact Or.inr h2
theorem ofN_len (X : List Nat) : ∀ z, (ofN X z).length = 32
  | 0 => List.length_replicate
  | z + 1 => by
    unfold ofN comeO
    split
    · exact ofN_len X z
    · rw [List.length_set]; exact ofN_len X z
theorem ofN_get (X : List Nat) : ∀ z, z ≤ 32 → ∀ k, k < (tsN X z).length → (ofN X z).getD k 0 = k
  | 0, _, k, hk => by simp [tsN] at hk
  | z + 1, hz, k, hk => by
    have ih := ofN_get X z (by omega)
    have h1 := tsN_len X z
    have h2 := ofN_len X z
    unfold tsN comeT at hk
    unfold ofN comeO
    split at hk
    · rename_i c
      rw [if_pos c]
      exact ih k hk
    · rename_i c
      rw [if_neg c, getD_set (by omega)]
      rw [List.length_append, List.length_singleton] at hk
      by_cases e : (tsN X z).length = k
      · rw [if_pos e, e]
      · rw [if_neg e]
        exact ih k (by omega)
theorem ex_min {ts : List (List Nat)} {t : List Nat} (h : t ∈ ts) : ∃ j : Nat, ts[j]? = some t ∧ ∀ i : Nat, i < j → ts[i]? ≠ some t := by
  induction ts with
  | nil => cases h
  | cons x r ih =>
    by_cases e : x = t
    · exact ⟨0, by rw [e]; rfl, fun i hi => by omega⟩
    · rcases List.mem_cons.mp h with z | z
      · exact absurd z.symm e
      · obtain ⟨j, j1, j2⟩ := ih z
        refine ⟨j + 1, by rw [List.getElem?_cons_succ]; exact j1, fun i hi => ?_⟩
        match i, hi with
        | 0, _ => exact fun z => e (Option.some.inj z)
        | i + 1, hi => rw [List.getElem?_cons_succ]; exact j2 i (by omega)
theorem ko_sub {X : List Nat} (hX : BX X) {p : Nat} (hp : p < X.length) : ∀ j, j ≤ ga X p → p + ko (sub' X p) 0 j = ko X p j
  | 0, _ => rfl
  | j + 1, hj => by
    have ih := ko_sub hX hp j (by omega)
    obtain ⟨k1, k2, k3, k4, k5⟩ := ko_mono hX hp (show j < ga X p by omega)
    obtain ⟨s1, s2⟩ := sub_sub hX hp (show p ≤ ko X p j by omega) k2
    rw [show ko X p j - p = ko (sub' X p) 0 j by omega] at s1
    show p + (ko (sub' X p) 0 j + tl (sub' X p) (ko (sub' X p) 0 j)) = ko X p j + tl X (ko X p j)
    omega
def PtX (ts : List (List Nat)) (pt : List Nat) (k j : Nat) : Prop := ∀ a i, a < ts.length → i < pF (hdT ts a) → (a < k ∨ (a = k ∧ i < j)) → ts[pt.getD (3 * a + i) 0]? = some (sub' (ts.getD a []) (ko (ts.getD a []) 0 i))
/-- what the constructor comes to -/
def InP (X : List Nat) (n1 : Nat) (ts : List (List Nat)) (of' pt : List Nat) (can : Bool) : Prop :=
  ts = tsN X X.length ∧ PtX ts pt ts.length 0 ∧ PtOk ts pt ∧ JI ts.length of' ∧ ∃ i0 i1 c1 g, ts[i0]? = some (sub' X 0) ∧ ts[i1]? = some (sub' X n1) ∧ joinF ts pt 33 (ofN X X.length) true i0 i1 = some (of', c1) ∧ rdF ts of' pt 33 (List.replicate ts.length false) = some g ∧ GI ts of' pt g ∧ can = (c1 && !rnF of' g ts.length 0)
theorem cl8_9 : Cond.classLink RX8 9 (cnm (aty 105)) ∈ WT := by rw [aty105]; exact WT_of (tbw_7 (List.mem_of_getElem? (i := 72) rfl)) rfl
section M77
variable {la : Launch} {D : va_G} {cA : Nat → ClassId} {B0 pa : Nat}
set_option maxHeartbeats 32000000 in
theorem c_init8 (h : AH) {o8 u1 u2 n1 : Nat} {X : List Nat} (hY : BY X n1) (ho : h o8 = some (10, [.null, .null, .null, .int 0, .int 0])) (hu1 : h u1 = some (IA (sub' X 0))) (hu2 : h u2 = some (IA (sub' X n1))) :
    CT la D cA B0 pa yX8_init cX8_init 6 none (rmD 36 36 704) [.ref o8, .ref u1, .ref u2] h (fun v h' => v = none ∧ (∃ T O Q ts of' pt can, CS h' o8 T O Q ts of' pt can ∧ InP X n1 ts of' pt can) ∧ Fo o8 h h') := by
  refine CT_of (by decide +kernel) (Nat.le_of_ble_eq_true rfl) ?_
  intro p e s m args below meth c X' E hr hlk hnm
  have dk : ∀ {pc : Nat} {q : Instr × Nat}, lkd DX8_init pc = some q → decode cX8_init pc = .ok q := lkd_ok DX8_init_ok
  have hX := hY.1
  have hN : X.length ≤ 32 := hX.2.2
  have y := hY.2
  have h0N : 0 < X.length := by omega
  have h1N : n1 < X.length := by omega
  have l1 := sub_len hX h0N
  have l2 := sub_len hX h1N
  have w1 := sub_TW hX h0N
  have w2 := sub_TW hX h1N
  have hm32 : (tsN X X.length).length ≤ 32 := by have := tsN_len X X.length; omega
  repeat refine fst1_ok X' (dk rfl) rfl ?_
  refine obj_ok X' ml8_obj (dk rfl) (Nat.le_of_ble_eq_true rfl) (Nat.le_of_ble_eq_true rfl) (Nat.le_of_ble_eq_true rfl) ?_
  repeat refine fst1_ok X' (dk rfl) rfl ?_
  refine newR_ok (N := 32) (kd := 105) X' E (by decide) cl8_9 (by decide) (dk rfl) (Nat.le_of_ble_eq_true rfl) (Nat.le_of_ble_eq_true rfl) (fun T hT hBT => ?_)
  have hoT : o8 ≠ T := fun z => by rw [← z, ho] at hT; cases hT
  have g1 : hup h T (105, List.replicate 32 Value.null) o8 = some (10, [.null, .null, .null, .int 0, .int 0]) := by rw [hup_ne _ _ hoT]; exact ho
  refine putf_ok X' flX8_11 ftX8_0 (Or.inr ⟨by rw [hnm]; rfl, RX8, TX8, 5, rfl, rfl⟩) rfl rfl (dk rfl) g1 (Nat.le_of_ble_eq_true rfl) ?_
  have F1 : Fo o8 h (hup (hup h T (105, List.replicate 32 Value.null)) o8 (10, [Value.null, .null, .null, .int 0, .int 0].set 0 (.ref T))) := fun b c hb e => by rw [hup_ne _ _ hb]; exact Ext.new hT _ _ _ e
  have a1 : hup (hup h T (105, List.replicate 32 Value.null)) o8 (10, [Value.null, .null, .null, .int 0, .int 0].set 0 (.ref T)) o8 = some (10, [.ref T, .null, .null, .int 0, .int 0]) := hup_self _ _ _
  have b1 : hup (hup h T (105, List.replicate 32 Value.null)) o8 (10, [Value.null, .null, .null, .int 0, .int 0].set 0 (.ref T)) T = some (105, filR [] 32) := by rw [hup_ne _ _ hoT.symm, hup_self, filR_0]
  generalize hup (hup h T (105, List.replicate 32 Value.null)) o8 (10, [Value.null, .null, .null, .int 0, .int 0].set 0 (.ref T)) = h1 at F1 a1 b1
  repeat refine fst1_ok X' (dk rfl) rfl ?_
  refine newI_ok (N := 32) X' (by decide) (dk rfl) (Nat.le_of_ble_eq_true rfl) (Nat.le_of_ble_eq_true rfl) (fun O hO hBO => ?_)
  have hoO : o8 ≠ O := fun z => by rw [← z, a1] at hO; cases hO
  have hTO : T ≠ O := fun z => by rw [← z, b1] at hO; cases hO
  have g2 : hup h1 O (100, List.replicate 32 (Value.int 0)) o8 = some (10, [.ref T, .null, .null, .int 0, .int 0]) := by rw [hup_ne _ _ hoO]; exact a1
  refine putf_ok X' flX8_17 ftX8_1 (Or.inr ⟨by rw [hnm]; rfl, RX8, TX8, 5, rfl, rfl⟩) rfl rfl (dk rfl) g2 (Nat.le_of_ble_eq_true rfl) ?_
  have F2 : Fo o8 h (hup (hup h1 O (100, List.replicate 32 (Value.int 0))) o8 (10, [Value.ref T, .null, .null, .int 0, .int 0].set 1 (.ref O))) := fun b c hb e => by rw [hup_ne _ _ hb]; exact Ext.new hO _ _ _ (F1 b c hb e)
  have a2 : hup (hup h1 O (100, List.replicate 32 (Value.int 0))) o8 (10, [Value.ref T, .null, .null, .int 0, .int 0].set 1 (.ref O)) o8 = some (10, [.ref T, .ref O, .null, .int 0, .int 0]) := hup_self _ _ _
  have b2 : hup (hup h1 O (100, List.replicate 32 (Value.int 0))) o8 (10, [Value.ref T, .null, .null, .int 0, .int 0].set 1 (.ref O)) T = some (105, filR [] 32) := by rw [hup_ne _ _ hoT.symm, hup_ne _ _ hTO]; exact b1
  have c2 : hup (hup h1 O (100, List.replicate 32 (Value.int 0))) o8 (10, [Value.ref T, .null, .null, .int 0, .int 0].set 1 (.ref O)) O = some (IA (List.replicate 32 0)) := by rw [hup_ne _ _ hoO.symm, hup_self, IA, List.map_replicate]; rfl
  have hOn : h O = none := by
    cases hz : h O with
    | none => rfl
    | some c => have := F1 O c hoO.symm hz; rw [hO] at this; cases this
  generalize hup (hup h1 O (100, List.replicate 32 (Value.int 0))) o8 (10, [Value.ref T, .null, .null, .int 0, .int 0].set 1 (.ref O)) = h2 at F2 a2 b2 c2
  repeat refine fst1_ok X' (dk rfl) rfl ?_
  refine newI_ok (N := 96) X' (by decide) (dk rfl) (Nat.le_of_ble_eq_true rfl) (Nat.le_of_ble_eq_true rfl) (fun Q hQ hBQ => ?_)
  have hoQ : o8 ≠ Q := fun z => by rw [← z, a2] at hQ; cases hQ
  have hTQ : T ≠ Q := fun z => by rw [← z, b2] at hQ; cases hQ
  have hOQ : O ≠ Q := fun z => by rw [← z, c2] at hQ; cases hQ
  have g3 : hup h2 Q (100, List.replicate 96 (Value.int 0)) o8 = some (10, [.ref T, .ref O, .null, .int 0, .int 0]) := by rw [hup_ne _ _ hoQ]; exact a2
  refine putf_ok X' flX8_20 ftX8_2 (Or.inr ⟨by rw [hnm]; rfl, RX8, TX8, 5, rfl, rfl⟩) rfl rfl (dk rfl) g3 (Nat.le_of_ble_eq_true rfl) ?_
  have F3 : Fo o8 h (hup (hup h2 Q (100, List.replicate 96 (Value.int 0))) o8 (10, [Value.ref T, .ref O, .null, .int 0, .int 0].set 2 (.ref Q))) := fun b c hb e => by rw [hup_ne _ _ hb]; exact Ext.new hQ _ _ _ (F2 b c hb e)
  have a3 : hup (hup h2 Q (100, List.replicate 96 (Value.int 0))) o8 (10, [Value.ref T, .ref O, .null, .int 0, .int 0].set 2 (.ref Q)) o8 = some (10, [.ref T, .ref O, .ref Q, .int 0, .int 0]) := hup_self _ _ _
  have b3 : hup (hup h2 Q (100, List.replicate 96 (Value.int 0))) o8 (10, [Value.ref T, .ref O, .null, .int 0, .int 0].set 2 (.ref Q)) T = some (105, filR [] 32) := by rw [hup_ne _ _ hoT.symm, hup_ne _ _ hTQ]; exact b2
  have c3 : hup (hup h2 Q (100, List.replicate 96 (Value.int 0))) o8 (10, [Value.ref T, .ref O, .null, .int 0, .int 0].set 2 (.ref Q)) O = some (IA (List.replicate 32 0)) := by rw [hup_ne _ _ hoO.symm, hup_ne _ _ hOQ]; exact c2
  have d3 : hup (hup h2 Q (100, List.replicate 96 (Value.int 0))) o8 (10, [Value.ref T, .ref O, .null, .int 0, .int 0].set 2 (.ref Q)) Q = some (IA (List.replicate 96 0)) := by rw [hup_ne _ _ hoQ.symm, hup_self, IA, List.map_replicate]; rfl
  have hQn : h Q = none := by
    cases hz : h Q with
    | none => rfl
    | some c => have := F2 Q c hoQ.symm hz; rw [hQ] at this; cases this
  generalize hup (hup h2 Q (100, List.replicate 96 (Value.int 0))) o8 (10, [Value.ref T, .ref O, .null, .int 0, .int 0].set 2 (.ref Q)) = h3 at F3 a3 b3 c3 d3
  repeat refine fst1_ok X' (dk rfl) rfl ?_
  refine putf_ok X' flX8_23 ftX8_4 (Or.inl rfl) rfl rfl (dk rfl) a3 (Nat.le_of_ble_eq_true rfl) ?_
  have M4 : CS (hup h3 o8 (10, [Value.ref T, .ref O, .ref Q, .int 0, .int 0].set 4 (.int (Int32.ofInt 1)))) o8 T O Q (tsN X 0) (ofN X 0) (List.replicate 96 0) true := by
    refine ⟨hup_self _ _ _, ⟨[], rfl, by rw [hup_ne _ _ hoT.symm]; exact b3, fun k r hk => by simp [tsN] at hk⟩, by rw [hup_ne _ _ hoO.symm]; exact c3, by rw [hup_ne _ _ hoQ.symm]; exact d3, hOQ, List.length_replicate, List.length_replicate, Nat.zero_le _, fun t ht => by simp [tsN] at ht, fun x hx => ?_, fun x hx => ?_⟩
    · have := (List.mem_replicate.mp hx).2; omega
    · have := (List.mem_replicate.mp hx).2; omega
  have F4 : Fo o8 h (hup h3 o8 (10, [Value.ref T, .ref O, .ref Q, .int 0, .int 0].set 4 (.int (Int32.ofInt 1)))) := fun b c hb e => by rw [hup_ne _ _ hb]; exact F3 b c hb e
  generalize hup h3 o8 (10, [Value.ref T, .ref O, .ref Q, .int 0, .int 0].set 4 (.int (Int32.ofInt 1))) = h4 at M4 F4
  show WR p la e (rmD 36 36 704) s m args below meth c D cA B0 6 (fun v h' => v = none ∧ (∃ T O Q ts of' pt can, CS h' o8 T O Q ts of' pt can ∧ InP X n1 ts of' pt can) ∧ Fo o8 h h') 34 _ [] h4 3 160
  have FoC : ∀ {hh hh' : AH}, Fo o8 h hh → Fc o8 T O Q hh hh' → Fo o8 h hh' := fun {hh hh'} a b x c hx e => b x c hx (fun z => by rw [z, hT] at e; cases e) (fun z => by rw [z, hOn] at e; cases e) (fun z => by rw [z, hQn] at e; cases e) (a x c hx e)
  have FoE : ∀ {hh hh' : AH}, Fo o8 h hh → Ext hh hh' → Fo o8 h hh' := fun a b x c hx e => b x c (a x c hx e)
  have hu1o : u1 ≠ o8 := k_ne hu1 ho (by decide)
  have hu2o : u2 ≠ o8 := k_ne hu2 ho (by decide)
  -- one more term comes
  have comeC : ∀ (hh : AH) (z q : Nat), z < X.length → CS hh o8 T O Q (tsN X z) (ofN X z) (List.replicate 96 0) true → hh q = none → CT la D cA B0 pa yX8_come cX8_come 3 none (rmD 3 0 0) [.ref o8, .ref q] (hup hh q (IA (sub' X z))) (fun v h' => v = none ∧ CS h' o8 T O Q (tsN X (z + 1)) (ofN X (z + 1)) (List.replicate 96 0) true ∧ Fc o8 T O Q (hup hh q (IA (sub' X z))) h') := by
    intro hh z q hz M hq
    have := tsN_len X z
    exact c_come _ (M.ext (Ext.new hq _)) (hup_self _ _ _) (fun z => by rw [z, M.2.2.1] at hq; cases hq) (fun z => by rw [z, M.2.2.2.1] at hq; cases hq) ⟨sub_TW hX hz, by rw [sub_len hX hz]; exact hY.tl16 hz⟩ (fun _ => by omega)
  -- the tail: joining, and whether it is round
  have tail : ∀ (hh : AH) (pt : List Nat) (l : List (Nat × Value)), lsel l [2, 1, 0] = [(2, .ref u2), (1, .ref u1), (0, .ref o8)] → CS hh o8 T O Q (tsN X X.length) (ofN X X.length) pt true → PtX (tsN X X.length) pt (tsN X X.length).length 0 → PtOk (tsN X X.length) pt → Fo o8 h hh → WR p la e (rmD 36 36 704) s m args below meth c D cA B0 6 (fun v h' => v = none ∧ (∃ T O Q ts of' pt can, CS h' o8 T O Q ts of' pt can ∧ InP X n1 ts of' pt can) ∧ Fo o8 h h') 160 l [] hh 35 672 := by
    intro hh pt l hl MM hPX hP FF
    obtain ⟨i0, p1, p2⟩ := ex_min ((tsN_mem X X.length (sub' X 0)).mpr ⟨0, h0N, rfl⟩)
    obtain ⟨i1, q1, q2⟩ := ex_min ((tsN_mem X X.length (sub' X n1)).mpr ⟨n1, h1N, rfl⟩)
    have i0l := (List.getElem?_eq_some_iff.mp p1).1
    have i1l := (List.getElem?_eq_some_iff.mp q1).1
    have k1 := FF _ _ hu1o hu1
    have k2 := FF _ _ hu2o hu2
    have J0 : JI (tsN X X.length).length (ofN X X.length) := ⟨ofN_len X _, fun k hk => by
      have e := ofN_get X X.length hN k hk
      rw [e, e]
      exact ⟨hk, rfl⟩⟩
    have hfx := fxN_le (tsN X X.length).length (ofN X X.length)
    obtain ⟨o2, c2', J1, J2, J3⟩ := joinF_ok hm32 hP 33 (ofN X X.length) true i0 i1 J0 i0l i1l (by omega)
    have hOf : OfOk (tsN X X.length) o2 := fun k hk => (J2.2 k hk).1
    obtain ⟨g, R1, R2, R3⟩ := rdF_ok hOf 33 (List.replicate (tsN X X.length).length false) List.length_replicate (GI_0 _ _ _) (by omega)
    have s0 : sub' (sub' X 0) 0 = sub' X 0 := (sub_sub hX h0N (Nat.zero_le 0) (by omega)).2
    have s1 : sub' (sub' X n1) 0 = sub' X n1 := by
      have := (sub_sub hX h1N (Nat.le_refl n1) (by omega)).2
      rw [Nat.sub_self] at this
      exact this
    refine WS.sel [2, 1, 0] hl ?_
    repeat refine fst1_ok X' (dk rfl) rfl ?_
    refine callV_ok (ci := 10) (T := TX8) (N := 5) (av := [.ref u1, vI 0]) (r := [.ref o8]) X' E (c_number hh MM (pl := 0) k1 ⟨w1, by omega⟩ (by omega) (by rw [s0]; exact p1) (by rw [s0]; exact p2)) lkX8_number mlX8_43 lmX8_number lpX8_number ⟨Nat.le_of_ble_eq_true rfl, Nat.le_of_ble_eq_true rfl⟩ ⟨Nat.le_of_ble_eq_true rfl, Nat.le_of_ble_eq_true rfl⟩ rfl MM.1 (Nat.le_of_ble_eq_true rfl) (dk rfl) ?_
    rintro v h5 ⟨rfl, rfl⟩
    repeat refine fst1_ok X' (dk rfl) rfl ?_
    refine callV_ok (ci := 10) (T := TX8) (N := 5) (av := [.ref u2, vI 0]) (r := [vI i0, .ref o8]) X' E (c_number h5 MM (pl := 0) k2 ⟨w2, by omega⟩ (by omega) (by rw [s1]; exact q1) (by rw [s1]; exact q2)) lkX8_number mlX8_43 lmX8_number lpX8_number ⟨Nat.le_of_ble_eq_true rfl, Nat.le_of_ble_eq_true rfl⟩ ⟨Nat.le_of_ble_eq_true rfl, Nat.le_of_ble_eq_true rfl⟩ rfl MM.1 (Nat.le_of_ble_eq_true rfl) (dk rfl) ?_
    rintro v h6 ⟨rfl, rfl⟩
    refine callV_ok (ci := 10) (T := TX8) (N := 5) (av := [vI i0, vI i1]) (r := []) X' E (c_join hP 33 h6 _ true i0 i1 o2 c2' MM i0l i1l J1) lkX8_join mlX8_50 lmX8_join lpX8_join ⟨Nat.le_of_ble_eq_true rfl, Nat.le_of_ble_eq_true rfl⟩ ⟨Nat.le_of_ble_eq_true rfl, Nat.le_of_ble_eq_true rfl⟩ rfl MM.1 (Nat.le_of_ble_eq_true rfl) (dk rfl) ?_
    rintro v h7 ⟨rfl, M7, F7⟩
    have FF7 := FoC FF F7
    have fin9 : ∀ (b : Bool) (hz : AH), b = (c2' && !rnF o2 g (tsN X X.length).length 0) → CS hz o8 T O Q (tsN X X.length) o2 pt c2' → Fo o8 h hz → ∀ l : List (Nat × Value), WR p la e (rmD 36 36 704) s m args below meth c D cA B0 6 (fun v h' => v = none ∧ (∃ T O Q ts of' pt can, CS h' o8 T O Q ts of' pt can ∧ InP X n1 ts of' pt can) ∧ Fo o8 h h') 196 l [.int (bI b), .ref o8] hz 36 704 := by
      intro b hz hb Mz Fz l
      refine putf_ok X' flX8_23 ftX8_4 (Or.inl rfl) (by cases b <;> rfl) (by cases b <;> rfl) (dk rfl) Mz.1 (Nat.le_of_ble_eq_true rfl) ?_
      refine retv_ok X' hr hlk (dk rfl) ⟨rfl, ⟨T, O, Q, _, o2, pt, b, Mz.setC b, rfl, hPX, hP, J2, i0, i1, c2', g, p1, q1, J1, R1, R2, hb⟩, fun x c hx e => by rw [hup_ne _ _ hx]; exact Fz x c hx e⟩ (Nat.le_refl _) (Nat.le_refl _)
    repeat refine fst1_ok X' (dk rfl) rfl ?_
    refine getf_ok X' flX8_23 (dk rfl) M7.1 rfl ?_
    cases hc : c2' with
    | false =>
      rw [hc] at fin9 M7
      refine br_ok X' (dk rfl) rfl (show ((181 : Nat) : Int) + 14 = ((195 : Nat) : Int) from rfl) (fun _ => ?_) (fun q => absurd bI_f' q)
      refine fst1_ok X' (dk rfl) rfl ?_
      refine WS.widen (k' := 36) (n' := 704) (Nat.le_of_ble_eq_true rfl) (Nat.le_of_ble_eq_true rfl) ?_
      exact fin9 false h7 rfl M7 FF7 _
    | true =>
      rw [hc] at fin9 M7
      refine br_ok X' (dk rfl) rfl (show ((181 : Nat) : Int) + 14 = ((195 : Nat) : Int) from rfl) (fun q => absurd q bI_t) (fun _ => ?_)
      refine fst1_ok X' (dk rfl) rfl ?_
      refine callV_ok (ci := 10) (T := TX8) (N := 5) (av := []) (r := [.ref o8]) X' E (c_isRound h7 M7 hP hOf R1) lkX8_isRound mlX8_54 lmX8_isRound lpX8_isRound ⟨Nat.le_of_ble_eq_true rfl, Nat.le_of_ble_eq_true rfl⟩ ⟨Nat.le_of_ble_eq_true rfl, Nat.le_of_ble_eq_true rfl⟩ rfl M7.1 (Nat.le_of_ble_eq_true rfl) (dk rfl) ?_
      rintro v h8 ⟨rfl, X8⟩
      cases hb : rnF o2 g (tsN X X.length).length 0 with
      | true =>
        rw [hb] at fin9
        refine br_ok X' (dk rfl) rfl (show ((188 : Nat) : Int) + 7 = ((195 : Nat) : Int) from rfl) (fun _ => ?_) (fun q => absurd bI_t q)
        refine fst1_ok X' (dk rfl) rfl ?_
        exact fin9 false h8 rfl (M7.ext X8) (FoE FF7 X8) _
      | false =>
        rw [hb] at fin9
        refine br_ok X' (dk rfl) rfl (show ((188 : Nat) : Int) + 7 = ((195 : Nat) : Int) from rfl) (fun q => absurd q bI_f) (fun _ => ?_)
        refine fst1_ok X' (dk rfl) rfl ?_
        refine br_ok X' (dk rfl) rfl (show ((192 : Nat) : Int) + 4 = ((196 : Nat) : Int) from rfl) (fun _ => ?_) (fun q => absurd trivial q)
        exact fin9 true h8 rfl (M7.ext X8) (FoE FF7 X8) _
  -- the parts of all terms
  have hTm : ∀ k, k < (tsN X X.length).length → ∃ z, z < X.length ∧ (tsN X X.length)[k]? = some (sub' X z) ∧ (tsN X X.length).getD k [] = sub' X z ∧ hdT (tsN X X.length) k = gl X z := by
    intro k hk
    obtain ⟨t, ht⟩ : ∃ t, (tsN X X.length)[k]? = some t := ⟨_, List.getElem?_eq_getElem hk⟩
    obtain ⟨z, z1, z2⟩ := (tsN_mem X X.length t).mp (List.mem_of_getElem? ht)
    rw [z2] at ht
    have e : (tsN X X.length).getD k [] = sub' X z := by rw [List.getD_eq_getElem?_getD, ht]; rfl
    refine ⟨z, z1, ht, e, ?_⟩
    unfold hdT
    rw [e, sub_cons hX z1]
    rfl
  have hpf3 : ∀ k, k < (tsN X X.length).length → pF (hdT (tsN X X.length) k) ≤ 3 := by
    intro k hk
    obtain ⟨z, z1, z2, z3, z4⟩ := hTm k hk
    rw [z4]
    exact ga_le hX z1
  have loop3 : ∀ (d k : Nat) (hh : AH) (pt : List Nat) (l : List (Nat × Value)), lsel l [3, 2, 1, 0] = [(3, vI k), (2, .ref u2), (1, .ref u1), (0, .ref o8)] → k + d = (tsN X X.length).length → CS hh o8 T O Q (tsN X X.length) (ofN X X.length) pt true → PtX (tsN X X.length) pt k 0 → Fo o8 h hh → WR p la e (rmD 36 36 704) s m args below meth c D cA B0 6 (fun v h' => v = none ∧ (∃ T O Q ts of' pt can, CS h' o8 T O Q ts of' pt can ∧ InP X n1 ts of' pt can) ∧ Fo o8 h h') 82 l [] hh 35 672 := by
    intro d
    induction d with
    | zero =>
      intro k hh pt l hl hk MM hPX FF
      have hkt : k = (tsN X X.length).length := by omega
      subst hkt
      refine WS.sel [3, 2, 1, 0] hl ?_
      repeat refine fst1_ok X' (dk rfl) rfl ?_
      refine getf_ok X' flX8_35 (dk rfl) MM.1 rfl ?_
      refine br_ok X' (dk rfl) rfl (show ((87 : Nat) : Int) + 73 = ((160 : Nat) : Int) from rfl) (fun _ => ?_) (fun c1 => absurd ((nI_leI (by omega) (by omega)).mpr (by omega)) c1)
      refine tail hh pt _ rfl MM hPX (fun a ha j hj => ?_) FF
      exact (List.getElem?_eq_some_iff.mp (hPX a j ha hj (Or.inl ha))).1
    | succ d ih =>
      intro k hh pt l hl hk MM hPX FF
      have hkl : k < (tsN X X.length).length := by omega
      have f2 : Value.int (nI k + Int32.ofInt 1) = vI (k + 1) := congrArg Value.int (by rw [nI_1', nI_add])
      obtain ⟨z, z1, z2, z3, z4⟩ := hTm k hkl
      have hp3 := hpf3 k hkl
      refine WS.sel [3, 2, 1, 0] hl ?_
      repeat refine fst1_ok X' (dk rfl) rfl ?_
      refine getf_ok X' flX8_35 (dk rfl) MM.1 rfl ?_
      refine br_ok X' (dk rfl) rfl (show ((87 : Nat) : Int) + 73 = ((160 : Nat) : Int) from rfl) (fun c1 => absurd (nI_ge' (by omega) (by omega) c1) (by omega)) (fun _ => ?_)
      have inner : ∀ (n j : Nat) (hh : AH) (pt : List Nat) (l : List (Nat × Value)), lsel l [5, 4, 3, 2, 1, 0] = [(5, vI j), (4, vI (ko (sub' X z) 0 j)), (3, vI k), (2, .ref u2), (1, .ref u1), (0, .ref o8)] → j + n = pF (hdT (tsN X X.length) k) → CS hh o8 T O Q (tsN X X.length) (ofN X X.length) pt true → PtX (tsN X X.length) pt k j → Fo o8 h hh → WR p la e (rmD 36 36 704) s m args below meth c D cA B0 6 (fun v h' => v = none ∧ (∃ T O Q ts of' pt can, CS h' o8 T O Q ts of' pt can ∧ InP X n1 ts of' pt can) ∧ Fo o8 h h') 96 l [] hh 35 672 := by
        intro n
        induction n with
        | zero =>
          intro j hh pt l hl hj MM hPX FF
          obtain ⟨vs6, q6, r6, x, n1', n2, n3, n4, n5, n6, n7, n8, n9, n10⟩ := MM.term hkl
          have ex : hdT (tsN X X.length) k = x := n9
          have hx := n8.lt
          refine WS.sel [5, 4, 3, 2, 1, 0] hl ?_
          repeat refine fst1_ok X' (dk rfl) rfl ?_
          refine getf_ok X' flX8_11 (dk rfl) MM.1 rfl ?_
          refine fst1_ok X' (dk rfl) rfl ?_
          refine ld5_ok X' (dk rfl) n1' n2 (by omega) ?_
          refine fst1_ok X' (dk rfl) rfl ?_
          refine ald_ok X' (Or.inl ⟨rfl, rfl⟩) (dk rfl) n4 (inA_nI (j := 0) (by omega) (IA_get n7)) ?_
          refine callSN_ok (av := [vI x]) (r := [vI j]) X' E (c_parts hh (by omega)) lkX10_parts mnX8_39 lsX10_parts ⟨Nat.le_of_ble_eq_true rfl, Nat.le_of_ble_eq_true rfl⟩ ⟨Nat.le_of_ble_eq_true rfl, Nat.le_of_ble_eq_true rfl⟩ (Nat.le_of_ble_eq_true rfl) (dk rfl) ?_
          rintro v h5 ⟨rfl, rfl⟩
          refine br_ok X' (dk rfl) rfl (show ((109 : Nat) : Int) + 45 = ((154 : Nat) : Int) from rfl) (fun _ => ?_) (fun c1 => absurd ((nI_leI (by rw [← ex]; omega) (by omega)).mpr (by rw [← ex]; omega)) c1)
          repeat refine fst1_ok X' (dk rfl) rfl ?_
          refine br_ok X' (dk rfl) rfl (show ((157 : Nat) : Int) + (-75) = ((82 : Nat) : Int) from rfl) (fun _ => ?_) (fun q => absurd trivial q)
          refine WS.sel (l' := [(3, vI (k + 1)), (2, .ref u2), (1, .ref u1), (0, .ref o8)]) [3, 2, 1, 0] (by rw [← f2]; rfl) ?_
          refine ih (k + 1) h5 pt _ rfl (by omega) MM (fun a i ha hi hc => ?_) FF
          refine hPX a i ha hi ?_
          rcases hc with hc | hc
          · rcases Nat.lt_or_ge a k with q | q
            · exact Or.inl q
            · have : a = k := by omega
              subst this
              exact Or.inr ⟨rfl, by omega⟩
          · omega
        | succ n ihn =>
          intro j hh pt l hl hj MM hPX FF
          obtain ⟨vs6, q6, r6, x, n1', n2, n3, n4, n5, n6, n7, n8, n9, n10⟩ := MM.term hkl
          have ex : hdT (tsN X X.length) k = x := n9
          have hx := n8.lt
          have er : r6 = sub' X z := by rw [← n10, z3]
          subst er
          have f3 : Value.int (nI j + Int32.ofInt 1) = vI (j + 1) := congrArg Value.int (by rw [nI_1', nI_add])
          have jga : j < ga X z := by show j < pF (gl X z); rw [← z4]; omega
          obtain ⟨k1, k2, k3, k4, k5⟩ := ko_mono hX z1 jga
          have kk := ko_sub hX z1 j (by omega)
          have kk1 := ko_sub hX z1 (j + 1) (by omega)
          have ll := sub_len hX z1
          have t16 := hY.tl16 z1
          obtain ⟨s1, s2⟩ := sub_sub hX z1 (show z ≤ ko X z j by omega) k2
          rw [show ko X z j - z = ko (sub' X z) 0 j by omega] at s1 s2
          obtain ⟨i, i1, i2⟩ := ex_min ((tsN_mem X X.length (sub' X (ko X z j))).mpr ⟨_, k5, rfl⟩)
          have il := (List.getElem?_eq_some_iff.mp i1).1
          obtain ⟨o1, o2, o3, o4, o5⟩ := sub_ok n5 n6 (show ko (sub' X z) 0 j < (sub' X z).length by omega)
          refine WS.sel [5, 4, 3, 2, 1, 0] hl ?_
          repeat refine fst1_ok X' (dk rfl) rfl ?_
          refine getf_ok X' flX8_11 (dk rfl) MM.1 rfl ?_
          refine fst1_ok X' (dk rfl) rfl ?_
          refine ld5_ok X' (dk rfl) n1' n2 (by omega) ?_
          refine fst1_ok X' (dk rfl) rfl ?_
          refine ald_ok X' (Or.inl ⟨rfl, rfl⟩) (dk rfl) n4 (inA_nI (j := 0) (by omega) (IA_get n7)) ?_
          refine callSN_ok (av := [vI x]) (r := [vI j]) X' E (c_parts hh (by omega)) lkX10_parts mnX8_39 lsX10_parts ⟨Nat.le_of_ble_eq_true rfl, Nat.le_of_ble_eq_true rfl⟩ ⟨Nat.le_of_ble_eq_true rfl, Nat.le_of_ble_eq_true rfl⟩ (Nat.le_of_ble_eq_true rfl) (dk rfl) ?_
          rintro v h5 ⟨rfl, rfl⟩
          refine br_ok X' (dk rfl) rfl (show ((109 : Nat) : Int) + 45 = ((154 : Nat) : Int) from rfl) (fun c1 => absurd (nI_ge' (by omega) (by rw [← ex]; omega) c1) (by rw [← ex]; omega)) (fun _ => ?_)
          refine fst1_ok X' (dk rfl) rfl ?_
          refine getf_ok X' flX8_20 (dk rfl) MM.1 rfl ?_
          repeat refine fst1_ok X' (dk rfl) rfl ?_
          refine getf_ok X' flX8_11 (dk rfl) MM.1 rfl ?_
          refine fst1_ok X' (dk rfl) rfl ?_
          refine ld5_ok X' (dk rfl) n1' n2 (by omega) ?_
          refine fst1_ok X' (dk rfl) rfl ?_
          rw [nI_3', nI_mul, nI_add]
          refine callV_ok (ci := 10) (T := TX8) (N := 5) (av := [.ref q6, vI (ko (sub' X z) 0 j)]) (r := [vI (3 * k + j), .ref Q]) X' E (c_number h5 MM n4 ⟨n5, n6⟩ (by omega) (by rw [s2]; exact i1) (by rw [s2]; exact i2)) lkX8_number mlX8_43 lmX8_number lpX8_number ⟨Nat.le_of_ble_eq_true rfl, Nat.le_of_ble_eq_true rfl⟩ ⟨Nat.le_of_ble_eq_true rfl, Nat.le_of_ble_eq_true rfl⟩ rfl MM.1 (Nat.le_of_ble_eq_true rfl) (dk rfl) ?_
          rintro v h6 ⟨rfl, rfl⟩
          have lpt : pt.length = 96 := MM.2.2.2.2.2.2.1
          refine sti_ok X' (dk rfl) MM.2.2.2.1 (by rw [List.length_map]; omega) (by rw [List.length_map]; omega) ?_
          have M7 := MM.setQ (k := 3 * k + j) (x := i) (by omega)
          have F7 : Fo o8 h (hup h6 Q (100, (pt.map vI).set (3 * k + j) (vI i))) := FoC FF ((Fc.rf h6).set (Or.inr (Or.inr (Or.inr rfl))) _)
          show WR p la e (rmD 36 36 704) s m args below meth c D cA B0 6 _ 135 _ [] (hup h6 Q (100, (pt.map vI).set (3 * k + j) (vI i))) 35 672
          have n4' : hup h6 Q (100, (pt.map vI).set (3 * k + j) (vI i)) q6 = some (IA (sub' X z)) := by
            obtain ⟨as, e1, e2, e3⟩ := MM.2.1
            obtain ⟨a9, f1, f2', f3', f4⟩ := e3 k _ n3
            have : a9 = q6 := by
              rw [e2] at n1'
              cases n1'
              have := filR_get (N := 32) f1
              rw [this] at n2
              cases n2
              rfl
            rw [hup_ne _ _ (by rw [← this]; exact f3')]
            exact n4
          have n1'' : hup h6 Q (100, (pt.map vI).set (3 * k + j) (vI i)) T = some (105, vs6) := by rw [hup_ne _ _ hTQ]; exact n1'
          generalize hup h6 Q (100, (pt.map vI).set (3 * k + j) (vI i)) = h7 at M7 F7 n4' n1''
          refine fst1_ok X' (dk rfl) rfl ?_
          refine getf_ok X' flX8_11 (dk rfl) M7.1 rfl ?_
          refine fst1_ok X' (dk rfl) rfl ?_
          refine ld5_ok X' (dk rfl) n1'' n2 (by omega) ?_
          refine fst1_ok X' (dk rfl) rfl ?_
          refine callSN_ok (av := [.ref q6, vI (ko (sub' X z) 0 j)]) (r := []) X' E (c_end h7 n4' n5.lt (by omega) o1) lkX10_end mnX8_47 lsX10_end ⟨Nat.le_of_ble_eq_true rfl, Nat.le_of_ble_eq_true rfl⟩ ⟨Nat.le_of_ble_eq_true rfl, Nat.le_of_ble_eq_true rfl⟩ (Nat.le_of_ble_eq_true rfl) (dk rfl) ?_
          rintro v h8 ⟨rfl, rfl⟩
          repeat refine fst1_ok X' (dk rfl) rfl ?_
          refine br_ok X' (dk rfl) rfl (show ((151 : Nat) : Int) + (-55) = ((96 : Nat) : Int) from rfl) (fun _ => ?_) (fun q => absurd trivial q)
          refine WS.sel (l' := [(5, vI (j + 1)), (4, vI (ko (sub' X z) 0 (j + 1))), (3, vI k), (2, .ref u2), (1, .ref u1), (0, .ref o8)]) [5, 4, 3, 2, 1, 0] (by rw [← f3]; rfl) ?_
          refine ihn (j + 1) h8 _ _ rfl (by omega) M7 (fun a i' ha hi hc => ?_) F7
          have ha3 := hpf3 a ha
          rw [getD_set (by omega)]
          by_cases ee : 3 * k + j = 3 * a + i'
          · have e1 : a = k := by omega
            have e2 : i' = j := by omega
            subst e1
            subst e2
            rw [if_pos rfl, z3, s2]
            exact i1
          · rw [if_neg ee]
            refine hPX a i' ha hi ?_
            rcases hc with hc | hc
            · exact Or.inl hc
            · refine Or.inr ⟨hc.1, ?_⟩
              have : i' ≠ j := fun z => ee (by rw [z, hc.1])
              omega
      iterate 4 refine fst1_ok X' (dk rfl) rfl ?_
      exact inner (pF (hdT (tsN X X.length) k)) 0 hh pt _ rfl (Nat.zero_add _) MM hPX FF
  -- the terms of the second one
  have loop2 : ∀ (d i : Nat) (hh : AH) (l : List (Nat × Value)), lsel l [3, 2, 1, 0] = [(3, vI i), (2, .ref u2), (1, .ref u1), (0, .ref o8)] → i + d = (sub' X n1).length → CS hh o8 T O Q (tsN X (n1 + i)) (ofN X (n1 + i)) (List.replicate 96 0) true → Fo o8 h hh → WR p la e (rmD 36 36 704) s m args below meth c D cA B0 6 (fun v h' => v = none ∧ (∃ T O Q ts of' pt can, CS h' o8 T O Q ts of' pt can ∧ InP X n1 ts of' pt can) ∧ Fo o8 h h') 59 l [] hh (3 + n1 + i) (160 + 16 * n1 + 16 * i) := by
    have lm : ((sub' X n1).map vI).length = (sub' X n1).length := List.length_map _
    intro d
    induction d with
    | zero =>
      intro i hh l hl hi MM FF
      have k2 := FF _ _ hu2o hu2
      refine WS.sel [3, 2, 1, 0] hl ?_
      repeat refine fst1_ok X' (dk rfl) rfl ?_
      refine alen_ok X' (by decide) (dk rfl) k2 ?_
      rw [lm]
      refine br_ok X' (dk rfl) rfl (show ((62 : Nat) : Int) + 18 = ((80 : Nat) : Int) from rfl) (fun _ => ?_) (fun c1 => absurd ((nI_leI (by omega) (by omega)).mpr (by omega)) c1)
      iterate 2 refine fst1_ok X' (dk rfl) rfl ?_
      refine WS.widen (k' := 35) (n' := 672) (by omega) (by omega) ?_
      have eN : n1 + i = X.length := by omega
      rw [eN] at MM
      exact loop3 _ 0 hh _ _ rfl (Nat.zero_add _) MM (fun a i ha hi hc => by omega) FF
    | succ d ih =>
      intro i hh l hl hi MM FF
      have k2 := FF _ _ hu2o hu2
      have f2 : Value.int (nI i + Int32.ofInt 1) = vI (i + 1) := congrArg Value.int (by rw [nI_1', nI_add])
      obtain ⟨o1, o2, o3, o4, o5⟩ := sub_ok w2 (by omega) (show i < (sub' X n1).length by omega)
      have hiN : n1 + i < X.length := by omega
      have es : ((sub' X n1).drop i).take (tl (sub' X n1) i) = sub' X (n1 + i) := by
        have := (sub_sub hX h1N (show n1 ≤ n1 + i by omega) (by omega)).2
        rw [show n1 + i - n1 = i by omega] at this
        exact this
      refine WS.sel [3, 2, 1, 0] hl ?_
      repeat refine fst1_ok X' (dk rfl) rfl ?_
      refine alen_ok X' (by decide) (dk rfl) k2 ?_
      rw [lm]
      refine br_ok X' (dk rfl) rfl (show ((62 : Nat) : Int) + 18 = ((80 : Nat) : Int) from rfl) (fun c1 => absurd (nI_ge' (by omega) (by omega) c1) (by omega)) (fun _ => ?_)
      repeat refine fst1_ok X' (dk rfl) rfl ?_
      refine callSN_ok (av := [.ref u2, vI i]) (r := [.ref o8]) X' E (c_at hh k2 w2.lt (by omega) o1) lkX10_at mnX8_27 lsX10_at ⟨Nat.le_of_ble_eq_true rfl, Nat.le_of_ble_eq_true rfl⟩ ⟨by show 3 + n1 + i + 1 ≤ 36; omega, by show 160 + 16 * n1 + 16 * i + tl (sub' X n1) i ≤ 704; omega⟩ (Nat.le_of_ble_eq_true rfl) (dk rfl) ?_
      rintro v h5 ⟨q, rfl, hq, hBq, rfl⟩
      rw [es]
      refine WS.widen (k' := 3 + n1 + (i + 1)) (n' := 160 + 16 * n1 + 16 * (i + 1)) (by show 3 + n1 + i + 1 ≤ 3 + n1 + (i + 1); omega) (by show 160 + 16 * n1 + 16 * i + tl (sub' X n1) i ≤ 160 + 16 * n1 + 16 * (i + 1); omega) ?_
      refine callV_ok (ci := 10) (T := TX8) (N := 5) (av := [.ref q]) (r := []) X' E (comeC hh (n1 + i) q hiN MM hq) lkX8_come mlX8_31 lmX8_come lpX8_come ⟨Nat.le_of_ble_eq_true rfl, Nat.le_of_ble_eq_true rfl⟩ ⟨by show 3 + n1 + (i + 1) + 0 ≤ 36; omega, by show 160 + 16 * n1 + 16 * (i + 1) + 0 ≤ 704; omega⟩ rfl (Ext.new hq _ _ _ MM.1) (Nat.le_of_ble_eq_true rfl) (dk rfl) ?_
      rintro v h6 ⟨rfl, M6, F6⟩
      repeat refine fst1_ok X' (dk rfl) rfl ?_
      refine br_ok X' (dk rfl) rfl (show ((77 : Nat) : Int) + (-18) = ((59 : Nat) : Int) from rfl) (fun _ => ?_) (fun q => absurd trivial q)
      refine WS.sel (l' := [(3, vI (i + 1)), (2, .ref u2), (1, .ref u1), (0, .ref o8)]) [3, 2, 1, 0] (by rw [← f2]; rfl) ?_
      exact ih (i + 1) h6 _ rfl (by omega) M6 (FoC (FoE FF (Ext.new hq _)) F6)
  have loop1 : ∀ (d i : Nat) (hh : AH) (l : List (Nat × Value)), lsel l [3, 2, 1, 0] = [(3, vI i), (2, .ref u2), (1, .ref u1), (0, .ref o8)] → i + d = (sub' X 0).length → CS hh o8 T O Q (tsN X i) (ofN X i) (List.replicate 96 0) true → Fo o8 h hh → WR p la e (rmD 36 36 704) s m args below meth c D cA B0 6 (fun v h' => v = none ∧ (∃ T O Q ts of' pt can, CS h' o8 T O Q ts of' pt can ∧ InP X n1 ts of' pt can) ∧ Fo o8 h h') 36 l [] hh (3 + i) (160 + 16 * i) := by
    have lm : ((sub' X 0).map vI).length = (sub' X 0).length := List.length_map _
    intro d
    induction d with
    | zero =>
      intro i hh l hl hi MM FF
      have k1 := FF _ _ hu1o hu1
      refine WS.sel [3, 2, 1, 0] hl ?_
      repeat refine fst1_ok X' (dk rfl) rfl ?_
      refine alen_ok X' (by decide) (dk rfl) k1 ?_
      rw [lm]
      refine br_ok X' (dk rfl) rfl (show ((39 : Nat) : Int) + 18 = ((57 : Nat) : Int) from rfl) (fun _ => ?_) (fun c1 => absurd ((nI_leI (by omega) (by omega)).mpr (by omega)) c1)
      iterate 2 refine fst1_ok X' (dk rfl) rfl ?_
      have eN : i = n1 := by omega
      subst eN
      exact loop2 _ 0 hh _ rfl (Nat.zero_add _) MM FF
    | succ d ih =>
      intro i hh l hl hi MM FF
      have k1 := FF _ _ hu1o hu1
      have f2 : Value.int (nI i + Int32.ofInt 1) = vI (i + 1) := congrArg Value.int (by rw [nI_1', nI_add])
      obtain ⟨o1, o2, o3, o4, o5⟩ := sub_ok w1 (by omega) (show i < (sub' X 0).length by omega)
      have hiN : i < X.length := by omega
      have es : ((sub' X 0).drop i).take (tl (sub' X 0) i) = sub' X i := (sub_sub hX h0N (Nat.zero_le i) (by omega)).2
      refine WS.sel [3, 2, 1, 0] hl ?_
      repeat refine fst1_ok X' (dk rfl) rfl ?_
      refine alen_ok X' (by decide) (dk rfl) k1 ?_
      rw [lm]
      refine br_ok X' (dk rfl) rfl (show ((39 : Nat) : Int) + 18 = ((57 : Nat) : Int) from rfl) (fun c1 => absurd (nI_ge' (by omega) (by omega) c1) (by omega)) (fun _ => ?_)
      repeat refine fst1_ok X' (dk rfl) rfl ?_
      refine callSN_ok (av := [.ref u1, vI i]) (r := [.ref o8]) X' E (c_at hh k1 w1.lt (by omega) o1) lkX10_at mnX8_27 lsX10_at ⟨Nat.le_of_ble_eq_true rfl, Nat.le_of_ble_eq_true rfl⟩ ⟨by show 3 + i + 1 ≤ 36; omega, by show 160 + 16 * i + tl (sub' X 0) i ≤ 704; omega⟩ (Nat.le_of_ble_eq_true rfl) (dk rfl) ?_
      rintro v h5 ⟨q, rfl, hq, hBq, rfl⟩
      rw [es]
      refine WS.widen (k' := 3 + (i + 1)) (n' := 160 + 16 * (i + 1)) (by show 3 + i + 1 ≤ 3 + (i + 1); omega) (by show 160 + 16 * i + tl (sub' X 0) i ≤ 160 + 16 * (i + 1); omega) ?_
      refine callV_ok (ci := 10) (T := TX8) (N := 5) (av := [.ref q]) (r := []) X' E (comeC hh i q hiN MM hq) lkX8_come mlX8_31 lmX8_come lpX8_come ⟨Nat.le_of_ble_eq_true rfl, Nat.le_of_ble_eq_true rfl⟩ ⟨by show 3 + (i + 1) + 0 ≤ 36; omega, by show 160 + 16 * (i + 1) + 0 ≤ 704; omega⟩ rfl (Ext.new hq _ _ _ MM.1) (Nat.le_of_ble_eq_true rfl) (dk rfl) ?_
      rintro v h6 ⟨rfl, M6, F6⟩
      repeat refine fst1_ok X' (dk rfl) rfl ?_
      refine br_ok X' (dk rfl) rfl (show ((54 : Nat) : Int) + (-18) = ((36 : Nat) : Int) from rfl) (fun _ => ?_) (fun q => absurd trivial q)
      refine WS.sel (l' := [(3, vI (i + 1)), (2, .ref u2), (1, .ref u1), (0, .ref o8)]) [3, 2, 1, 0] (by rw [← f2]; rfl) ?_
      exact ih (i + 1) h6 _ rfl (by omega) M6 (FoC (FoE FF (Ext.new hq _)) F6)
  iterate 2 refine fst1_ok X' (dk rfl) rfl ?_
  exact loop1 _ 0 h4 _ rfl (Nat.zero_add _) M4 F4
end M77
