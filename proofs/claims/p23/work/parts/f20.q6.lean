/-! what an answer moves, behind each other (printed by wip/q/genQ6.py) -/
def mvR (rows : List (List Nat)) : Nat → List (List Nat)
  | 0 => []
  | k + 1 => if rows[k]? = some [k] then mvR rows k else mvR rows k ++ [rows.getD k []]
theorem mvR_mem {rows : List (List Nat)} (H : AO rows) : ∀ k, k ≤ 8 → ∀ r ∈ mvR rows k, TW r ∧ r.length ≤ 16
  | 0, _, r, h => by cases h
  | k + 1, hk, r, h => by
    unfold mvR at h
    split at h
    · exact mvR_mem H k (by omega) r h
    · rcases List.mem_append.mp h with z | z
      · exact mvR_mem H k (by omega) r z
      · have e := List.mem_singleton.mp z
        subst e
        have hl : k < rows.length := by rw [H.1]; omega
        rw [List.getD_eq_getElem?_getD, List.getElem?_eq_getElem hl]
        exact H.2 _ (List.getElem_mem hl)
theorem mvR_len (rows : List (List Nat)) : ∀ k, (mvR rows k).length ≤ k
  | 0 => Nat.le_refl _
  | k + 1 => by
    unfold mvR
    have := mvR_len rows k
    split
    · omega
    · rw [List.length_append, List.length_singleton]
      omega
theorem mvR_RO {rows : List (List Nat)} (H : AO rows) : RO (mvR rows 8) := ⟨by have := mvR_len rows 8; omega, mvR_mem H 8 (Nat.le_refl _)⟩
theorem flat_len : ∀ {rows : List (List Nat)}, (∀ r ∈ rows, r.length ≤ 16) → rows.flatten.length ≤ 16 * rows.length
  | [], _ => Nat.le_refl _
  | r :: rs, h => by
    have h1 := h r List.mem_cons_self
    have h2 := flat_len (rows := rs) (fun q hq => h q (List.mem_cons_of_mem _ hq))
    rw [List.flatten_cons, List.length_append, List.length_cons]
    omega
theorem flat_endL : ∀ {rows : List (List Nat)}, (∀ r ∈ rows, TW r) → endL rows.length rows.flatten = some rows.flatten.length
  | [], _ => rfl
  | r :: rs, h => by
    have h1 := endL_app _ rs.flatten _ _ (h r List.mem_cons_self).1
    have h2 := flat_endL (rows := rs) (fun q hq => h q (List.mem_cons_of_mem _ hq))
    have h3 := endL_join (r ++ rs.flatten) 1 rs.length r.length rs.flatten.length h1 (by rw [List.drop_left]; exact h2)
    rw [List.flatten_cons, List.length_cons, List.length_append, Nat.add_comm rs.length 1]
    exact h3
theorem mvR_GX {rows : List (List Nat)} (H : AO rows) : GX (mvR rows 8).flatten := by
  have h := mvR_RO H
  have hl := flat_len (rows := mvR rows 8) (fun r hr => (h.2 r hr).2)
  have := mvR_len rows 8
  refine ⟨⟨_, flat_endL (fun r hr => (h.2 r hr).1)⟩, fun x hx => ?_, by omega⟩
  obtain ⟨r, hr, hxr⟩ := List.mem_flatten.mp hx
  exact (h.2 r hr).1.2 x hxr
theorem addT_wide {xs ys : List Nat} (h : xs.length + ys.length ≤ 256) : addT 256 (xs.map nI, false) (ys.map nI, false) = ((xs ++ ys).map nI, false) := by
  unfold addT
  rw [addR_fit (by show (xs.map nI).length + (ys.map nI).length ≤ 256; rw [List.length_map, List.length_map]; exact h), List.map_append]
  rfl
def aWeight (x1 : Int32) (x2 : Bool) (st : ST) : RS := if okI 3 x1 then ((0, nI (if x2 = true then shN (mvR (st.2.1.getD (xI x1) []) 8).flatten else (mvR (st.2.1.getD (xI x1) []) 8).flatten.length)), st) else ((1, 0), st)
section Q20
variable {la : Launch} {D : va_G} {cA : Nat → ClassId} {B0 pa : Nat} {B Q P : Nat → Nat} {ox : Nat} {kn d r : Int32} {F : Nat → TC}
set_option maxHeartbeats 32000000 in
theorem s0_addMoved (h : AH) (Y : LYO B Q) (S : TS B Q h F) {o f : Nat} (O : AnO B h o f) {rows : List (List Nat)} (H1 : RWX F f rows) {i2 : Nat} (h2i : i2 < 52) (h2f : i2 < f ∨ f + 8 ≤ i2) (hrm : rmI i2 = 256) (he : F i2 = ([], false)) : CT la D cA B0 pa yX0_addMoved cX0_addMoved 3 none (rmD 2 0 0) [.ref o, .ref (B i2)] h (TP B Q (upF F i2 ((mvR rows 8).flatten.map nI, false)) h) := by
  refine CT_of (by decide +kernel) (Nat.le_of_ble_eq_true rfl) ?_
  intro p e s m args below meth c X E hr hlk hnm
  have dk : ∀ {pc : Nat} {q : Instr × Nat}, lkd DX0_addMoved pc = some q → decode cX0_addMoved pc = .ok q := lkd_ok DX0_addMoved_ok
  obtain ⟨of, arr, o1, o2⟩ := id O
  have loop : ∀ (d k : Nat) (h1 : AH), d = 8 - k → k ≤ 8 → TS B Q h1 (upF F i2 ((mvR rows k).flatten.map nI, false)) → FrT B Q h h1 → ∀ l : List (Nat × Value), lsel l [2, 1, 0] = [(2, vI k), (1, .ref (B i2)), (0, .ref o)] → WR p la e (rmD 2 0 0) s m args below meth c D cA B0 3 (TP B Q (upF F i2 ((mvR rows 8).flatten.map nI, false)) h) 2 l [] h1 0 0 := by
    intro d
    induction d with
    | zero =>
      intro k h1 hd hk S1 f1 l hl
      have hk2 : k = 8 := by omega
      subst hk2
      refine WS.sel [2, 1, 0] hl ?_
      iterate 2 refine fst1_ok X (dk rfl) rfl ?_
      refine br_ok X (dk rfl) rfl (show ((5 : Nat) : Int) + 27 = ((32 : Nat) : Int) from rfl) (fun _ => ?_) (fun q => absurd (by rw [nI_8']; exact Int32.le_refl _) q)
      exact retv_ok X hr hlk (dk rfl) (⟨rfl, S1, f1⟩) (Nat.le_of_ble_eq_true rfl) (Nat.le_of_ble_eq_true rfl)
    | succ d ih =>
      intro k h1 hd hk S1 f1 l hl
      obtain ⟨n1, a1, a2, a3, a4⟩ := H1.2 k (by omega)
      have f3 : Value.int (nI k + Int32.ofInt 1) = vI (k + 1) := congrArg Value.int (by rw [nI_1', nI_add])
      have eg : (upF F i2 ((mvR rows k).flatten.map nI, false)) (f + k) = F (f + k) := upF_ne _ _ (by omega)
      have t1 : TN ((upF F i2 ((mvR rows k).flatten.map nI, false)) (f + k)) n1 := by
        rw [eg]
        exact ⟨by rw [a2], a3.2⟩
      have O1 := O.keep S f1
      have p1 := f1.keep S o1 (by decide) (by decide)
      have p2 := f1.keep S o2 (by decide) (by decide)
      have ao := RWX.ao H1
      have lk := flat_len (rows := mvR rows k) (fun r hr => (mvR_mem ao k (by omega) r hr).2)
      have lk2 := mvR_len rows k
      refine WS.sel [2, 1, 0] hl ?_
      iterate 2 refine fst1_ok X (dk rfl) rfl ?_
      refine br_ok X (dk rfl) rfl (show ((5 : Nat) : Int) + 27 = ((32 : Nat) : Int) from rfl) (fun q => absurd q (nI_ge (a := k) (b := 8) (by omega) (by omega))) (fun _ => ?_)
      iterate 2 refine fst1_ok X (dk rfl) rfl ?_
      refine callVR_ok (ci := 2) (T := TX0) (N := 1) (av := [vI k]) (r := []) X E (s0_moves h1 S1 O1 (n := k) (by omega) t1) lkX0_moves mlX0_42 lmX0_moves lpX0_moves ⟨Nat.le_of_ble_eq_true rfl, Nat.le_of_ble_eq_true rfl⟩ ⟨Nat.le_of_ble_eq_true rfl, Nat.le_of_ble_eq_true rfl⟩ rfl ⟨_, p1⟩ (Nat.le_of_ble_eq_true rfl) (dk rfl) ?_
      rintro _ rfl
      by_cases e1 : n1 = [k]
      · rw [decide_eq_false (fun z => z e1)]
        have em : mvR rows (k + 1) = mvR rows k := if_pos (by rw [a1, e1])
        refine br_ok X (dk rfl) rfl (show ((13 : Nat) : Int) + 13 = ((26 : Nat) : Int) from rfl) (fun _ => ?_) (fun q => absurd bI_f' q)
        refine fst1_ok X (dk rfl) rfl ?_
        refine br_ok X (dk rfl) rfl (show ((29 : Nat) : Int) + (-27) = ((2 : Nat) : Int) from rfl) (fun _ => ?_) (fun q => absurd trivial q)
        refine WS.sel (l' := [(2, vI (k + 1)), (1, .ref (B i2)), (0, .ref o)]) [2, 1, 0] (by rw [← f3]; rfl) ?_
        exact ih (k + 1) h1 (by omega) (by omega) (by rw [em]; exact S1) f1 _ rfl
      · rw [decide_eq_true e1]
        have em : (mvR rows (k + 1)).flatten = (mvR rows k).flatten ++ n1 := by
          have e2 : mvR rows (k + 1) = mvR rows k ++ [rows.getD k []] := if_neg (fun z => e1 (by rw [a1] at z; exact Option.some.inj z))
          rw [e2, getD_of a1, List.flatten_append]
          simp
        refine br_ok X (dk rfl) rfl (show ((13 : Nat) : Int) + 13 = ((26 : Nat) : Int) from rfl) (fun q => absurd q bI_t) (fun _ => ?_)
        iterate 2 refine fst1_ok X (dk rfl) rfl ?_
        refine getf_ok X flX0_11 (dk rfl) p1 rfl ?_
        refine fst1_ok X (dk rfl) rfl ?_
        refine aldr_ok X (Or.inl rfl) (dk rfl) p2 (by omega) (rgB_get B f (k := k) (by omega)) ?_
        refine callVT_ok (ci := 7) (T := TX5) (N := 3) (av := [.ref (B (f + k))]) (r := []) X E (s5_addTerm h1 Y S1 (i := i2) h2i (j := f + k) (by omega) (by omega)) lkX5_addTerm mlX0_64 lmX5_addTerm lpX5_addTerm ⟨Nat.le_of_ble_eq_true rfl, Nat.le_of_ble_eq_true rfl⟩ ⟨Nat.le_of_ble_eq_true rfl, Nat.le_of_ble_eq_true rfl⟩ rfl (S1 i2 h2i).2.1 (Nat.le_of_ble_eq_true rfl) (dk rfl) (fun h2 S2 f2 => ?_)
        rw [upF_self, eg, a2, hrm, addT_wide (by omega), upF_up, ← em] at S2
        refine fst1_ok X (dk rfl) rfl ?_
        refine br_ok X (dk rfl) rfl (show ((29 : Nat) : Int) + (-27) = ((2 : Nat) : Int) from rfl) (fun _ => ?_) (fun q => absurd trivial q)
        refine WS.sel (l' := [(2, vI (k + 1)), (1, .ref (B i2)), (0, .ref o)]) [2, 1, 0] (by rw [← f3]; rfl) ?_
        exact ih (k + 1) h2 (by omega) (by omega) S2 (f1.trans f2) _ rfl
  iterate 2 refine fst1_ok X (dk rfl) rfl ?_
  have e0 : (upF F i2 ((mvR rows 0).flatten.map nI, false)) = F := by
    funext q
    by_cases z : q = i2
    · subst z
      rw [upF_self, he]
      rfl
    · rw [upF_ne _ _ z]
  exact loop 8 0 h rfl (Nat.zero_le _) (by rw [e0]; exact S) (FrT.rf h) _ rfl
set_option maxHeartbeats 32000000 in
theorem s6_weight (h : AH) (hl : la.stackTraces = false) (Y : LYO B Q) {st : ST} (C0 : StC B Q P ox kn h st) (x1 : Int32) (x2 : Bool) : CTX la D cA B0 pa yX6_weight cX6_weight 4 (some .int) (rmD 7 1 6) [.ref ox, .int x1, .int (bI x2)] h (AP B Q P ox kn (aWeight x1 x2 st) h) (AX (aWeight x1 x2 st) st h) := by
  refine CTX_of (by decide +kernel) (Nat.le_of_ble_eq_true rfl) ?_
  intro p e s m args below meth c X E hr hlk hnm ht
  have dk : ∀ {pc : Nat} {q : Instr × Nat}, lkd DX6_weight pc = some q → decode cX6_weight pc = .ok q := lkd_ok DX6_weight_ok
  obtain ⟨F, C, H, O⟩ := id C0
  iterate 2 refine fst1_ok X (dk rfl) rfl ?_
  refine callVX_ok (ci := 8) (T := TX6) (N := 14) (av := [.int x1]) (r := []) X E ht hlk (s6_answerOf h hl C x1) (fun E1 h1 z => AX.one (by unfold aWeight; rw [if_neg (by rw [okI_f z.2.1]; decide)]) ⟨z.1, z.2.2⟩) lkX6_answerOf mlX6_151 lmX6_answerOf lpX6_answerOf ⟨Nat.le_of_ble_eq_true rfl, Nat.le_of_ble_eq_true rfl⟩ ⟨Nat.le_of_ble_eq_true rfl, Nat.le_of_ble_eq_true rfl⟩ rfl C.2.1 (Nat.le_of_ble_eq_true rfl) (dk rfl) ?_
  rintro _ h1 ⟨⟨k, hk, rfl, rfl⟩, eh⟩
  obtain rfl := eh.symm
  obtain ⟨rows, sk, rk⟩ := H.2 k hk
  have ok := C.2.2.1.2.2.1 k hk
  have gx := mvR_GX rk.ao
  iterate 2 refine fst1_ok X (dk rfl) rfl ?_
  refine getf_ok X flX6_31 (dk rfl) C.2.1 rfl ?_
  refine callVT_ok (ci := 7) (T := TX5) (N := 3) (av := []) (r := []) X E (s5_empty _ Y C.1 (i := 32) (by omega)) lkX5_empty mlX6_94 lmX5_empty lpX5_empty ⟨Nat.le_of_ble_eq_true rfl, Nat.le_of_ble_eq_true rfl⟩ ⟨Nat.le_of_ble_eq_true rfl, Nat.le_of_ble_eq_true rfl⟩ rfl (C.1 32 (by omega)).2.1 (Nat.le_of_ble_eq_true rfl) (dk rfl) (fun h2 S2 f2 => ?_)
  have C2 := C.tm Y S2 f2
  have ok2 := ok.keep C.1 f2
  have rk2 : RWX (upF F 32 ([], false)) (6 + 8 * k) rows := rk.cg (fun n hn => upF_ne _ _ (by omega))
  iterate 2 refine fst1_ok X (dk rfl) rfl ?_
  refine getf_ok X flX6_31 (dk rfl) C2.2.1 rfl ?_
  refine callVT_ok (ci := 2) (T := TX0) (N := 1) (av := [.ref (B 32)]) (r := []) X E (s0_addMoved h2 Y S2 ok2 rk2 (i2 := 32) (by omega) (by omega) rfl (upF_self _ _ _)) lkX0_addMoved mlX6_236 lmX0_addMoved lpX0_addMoved ⟨Nat.le_of_ble_eq_true rfl, Nat.le_of_ble_eq_true rfl⟩ ⟨Nat.le_of_ble_eq_true rfl, Nat.le_of_ble_eq_true rfl⟩ rfl ok2.2.choose_spec.1 (Nat.le_of_ble_eq_true rfl) (dk rfl) (fun h3 S3 f3 => ?_)
  rw [upF_up] at S3
  have C3 := C2.tm Y S3 f3
  have HK := upF_fs H (i := 32) (by omega) ((mvR rows 8).flatten.map nI, false)
  have FK : FrC h h3 := (f2.frC C.1).trans (f3.frC S2)
  have tn : TN (upF F 32 ((mvR rows 8).flatten.map nI, false) 32) (mvR rows 8).flatten := by
    rw [upF_self]
    exact ⟨rfl, gx.2.1⟩
  have e : aWeight (nI k) x2 st = ((0, nI (if x2 = true then shN (mvR rows 8).flatten else (mvR rows 8).flatten.length)), st) := by
    unfold aWeight
    rw [if_pos (okI_t hk (by decide)), xI_n (by omega), getD_of sk]
  rw [e]
  refine fst1_ok X (dk rfl) rfl ?_
  cases x2 with
  | false =>
    refine br_ok X (dk rfl) rfl (show ((22 : Nat) : Int) + 13 = ((35 : Nat) : Int) from rfl) (fun _ => ?_) (fun q => absurd bI_f' q)
    refine fst1_ok X (dk rfl) rfl ?_
    refine getf_ok X flX6_31 (dk rfl) C3.2.1 rfl ?_
    refine callVR_ok (ci := 7) (T := TX5) (N := 3) (av := []) (r := []) X E (s5_length h3 S3 (i := 32) (by omega)) lkX5_length mlX6_76 lmX5_length lpX5_length ⟨Nat.le_of_ble_eq_true rfl, Nat.le_of_ble_eq_true rfl⟩ ⟨Nat.le_of_ble_eq_true rfl, Nat.le_of_ble_eq_true rfl⟩ rfl ⟨_, (S3 32 (by omega)).2.1⟩ (Nat.le_of_ble_eq_true rfl) (dk rfl) ?_
    rintro _ rfl
    rw [tn.len]
    refine WRX.ret ?_
    exact reti_ok X hr hlk rfl (dk rfl) (⟨rfl, rfl, ⟨_, C3, HK, O⟩, FK⟩) (Nat.le_of_ble_eq_true rfl) (Nat.le_of_ble_eq_true rfl)
  | true =>
    refine br_ok X (dk rfl) rfl (show ((22 : Nat) : Int) + 13 = ((35 : Nat) : Int) from rfl) (fun q => absurd q bI_t) (fun _ => ?_)
    refine fst1_ok X (dk rfl) rfl ?_
    refine getf_ok X flX6_31 (dk rfl) C3.2.1 rfl ?_
    refine callVR_ok (ci := 7) (T := TX5) (N := 3) (av := []) (r := []) X E (s5_unlikePlaces h3 S3 (i := 32) (by omega) gx tn) lkX5_unlikePlaces mlX6_204 lmX5_unlikePlaces lpX5_unlikePlaces ⟨Nat.le_of_ble_eq_true rfl, Nat.le_of_ble_eq_true rfl⟩ ⟨Nat.le_of_ble_eq_true rfl, Nat.le_of_ble_eq_true rfl⟩ rfl ⟨_, (S3 32 (by omega)).2.1⟩ (Nat.le_of_ble_eq_true rfl) (dk rfl) ?_
    rintro _ rfl
    refine br_ok X (dk rfl) rfl (show ((32 : Nat) : Int) + 10 = ((42 : Nat) : Int) from rfl) (fun _ => ?_) (fun q => absurd trivial q)
    refine WRX.ret ?_
    exact reti_ok X hr hlk rfl (dk rfl) (⟨rfl, rfl, ⟨_, C3, HK, O⟩, FK⟩) (Nat.le_of_ble_eq_true rfl) (Nat.le_of_ble_eq_true rfl)
end Q20
