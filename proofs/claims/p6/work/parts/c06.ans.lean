/-! the class, strongly: answers (printed by wip/p20/genS5.py) -/
def rgB (B : Nat → Nat) (f n : Nat) : List Nat := (List.range n).map (fun k => B (f + k))
theorem rgB_get (B : Nat → Nat) (f : Nat) {n k : Nat} (h : k < n) : (rgB B f n)[k]? = some (B (f + k)) := by
  unfold rgB
  rw [List.getElem?_map, List.getElem?_range h]
  rfl
/-- an answer: its terms stand at f, f + 1 .. -/
def AnO (B : Nat → Nat) (h : AH) (o f : Nat) : Prop := f + 8 ≤ 50 ∧ ∃ arr, h o = some (2, [.ref arr]) ∧ h arr = some (103, (rgB B f 8).map Value.ref)
theorem AnO.keep {B Q : Nat → Nat} {h h' : AH} {F : Nat → TC} {o f : Nat} (H : AnO B h o f) (S : TS B Q h F) (x : FrT B Q h h') : AnO B h' o f := by
  obtain ⟨h1, arr, h2, h3⟩ := H
  exact ⟨h1, arr, x.keep S h2 (by decide) (by decide), x.keep S h3 (by decide) (by decide)⟩
/-- eight terms at f become others, the first k of them -/
def upK (F : Nat → TC) (f : Nat) (G : Nat → TC) (k : Nat) : Nat → TC := fun j => if f ≤ j ∧ j < f + k then G (j - f) else F j
theorem upK_0 (F : Nat → TC) (f : Nat) (G : Nat → TC) : upK F f G 0 = F := by
  funext j
  unfold upK
  rw [if_neg (by omega)]
theorem upK_in (F : Nat → TC) (f : Nat) (G : Nat → TC) {k n : Nat} (h : n < k) : upK F f G k (f + n) = G n := by
  unfold upK
  rw [if_pos (by omega), Nat.add_sub_cancel_left]
theorem upK_out (F : Nat → TC) (f : Nat) (G : Nat → TC) {k j : Nat} (h : j < f ∨ f + k ≤ j) : upK F f G k j = F j := if_neg (by omega)
theorem upK_up (F : Nat → TC) (f : Nat) (G : Nat → TC) (k : Nat) : upF (upK F f G k) (f + k) (G k) = upK F f G (k + 1) := by
  funext j
  unfold upF upK
  by_cases e : j = f + k
  · subst e
    rw [if_pos rfl, if_pos (by omega), Nat.add_sub_cancel_left]
  · rw [if_neg e]
    by_cases h : f ≤ j ∧ j < f + k
    · rw [if_pos h, if_pos (by omega)]
    · rw [if_neg h, if_neg (by omega)]
/-- what an answer tells -/
def RWX (F : Nat → TC) (f : Nat) (rows : List (List Nat)) : Prop := rows.length = 8 ∧ ∀ n, n < 8 → ∃ ns, rows[n]? = some ns ∧ F (f + n) = (ns.map nI, false) ∧ TW ns ∧ ns.length ≤ 16
theorem RWX.tn {F : Nat → TC} {f : Nat} {rows : List (List Nat)} (H : RWX F f rows) {n : Nat} (hn : n < 8) : ∃ ns, rows[n]? = some ns ∧ TN (F (f + n)) ns ∧ TW ns ∧ ns.length ≤ 16 := by
  obtain ⟨ns, h1, h2, h3, h4⟩ := H.2 n hn
  exact ⟨ns, h1, ⟨by rw [h2], h3.2⟩, h3, h4⟩
theorem RWX.ao {F : Nat → TC} {f : Nat} {rows : List (List Nat)} (H : RWX F f rows) : AO rows := by
  refine ⟨H.1, fun r hr => ?_⟩
  obtain ⟨n, hn, e⟩ := List.mem_iff_getElem.mp hr
  obtain ⟨ns, h1, -, h3, h4⟩ := H.2 n (by rw [← H.1]; exact hn)
  rw [List.getElem?_eq_getElem hn, e] at h1
  cases h1
  exact ⟨h3, h4⟩
/-- an answer used on a row, into a term -/
def auC (L : Nat) (F : Nat → TC) (u : Nat) (t : TC) (ns : List Nat) : TC := ns.foldl (fun t x => if x < 8 then addT L t (F (u + x)) else addC L t (nI x)) t
theorem auC_rows {L u : Nat} {F : Nat → TC} {rows : List (List Nat)} (H : RWX F u rows) : ∀ (ns : List Nat) (t : TC), (∀ x ∈ ns, okL x) → t.1.length ≤ L → auC L F u t ns = addR L t ((usedL rows ns).map nI) := by
  intro ns
  induction ns with
  | nil => intro t _ _; rfl
  | cons x r ih =>
    intro t hx ht
    have e1 : usedL rows (x :: r) = useL rows x ++ usedL rows r := List.flatMap_cons
    have e2 : addR L t ((useL rows x ++ usedL rows r).map nI) = addR L (addR L t ((useL rows x).map nI)) ((usedL rows r).map nI) := by
      unfold addR
      rw [List.map_append, List.foldl_append]
    have e3 : (if x < 8 then addT L t (F (u + x)) else addC L t (nI x)) = addR L t ((useL rows x).map nI) := by
      rcases hx x List.mem_cons_self with h8 | h8
      · obtain ⟨ys, y1, y2, -, -⟩ := H.2 x h8
        rw [if_pos h8, y2]
        unfold useL
        rw [if_pos (by omega), List.getD_eq_getElem?_getD, y1]
        show addT L t (ys.map nI, false) = addR L t (ys.map nI)
        unfold addT
        exact Prod.ext rfl (Bool.or_false _)
      · rw [if_neg (by omega)]
        unfold useL
        rw [if_neg (by omega)]
        rfl
    rw [e1, e2, ← e3]
    refine ih _ (fun y hy => hx y (List.mem_cons_of_mem _ hy)) ?_
    show (if x < 8 then addT L t (F (u + x)) else addC L t (nI x)).1.length ≤ L
    rw [e3]
    exact addR_len ht _
section S06
variable {la : Launch} {D : va_G} {cA : Nat → ClassId} {B0 pa : Nat} {B Q : Nat → Nat} {F : Nat → TC}
set_option maxHeartbeats 8000000 in
theorem s0_moves (h : AH) (S : TS B Q h F) {o f : Nat} (O : AnO B h o f) {n : Nat} (hn : n < 8) {ns : List Nat} (hN : TN (F (f + n)) ns) : CT la D cA B0 pa yX0_moves cX0_moves 2 (some .boolean) (rmD 1 0 0) [.ref o, vI n] h (RP (.int (bI (decide (ns ≠ [n])))) h) := by
  refine CT_of (by decide +kernel) (Nat.le_of_ble_eq_true rfl) ?_
  intro p e s m args below meth c X E hr hlk hnm
  have dk : ∀ {pc : Nat} {q : Instr × Nat}, lkd DX0_moves pc = some q → decode cX0_moves pc = .ok q := lkd_ok DX0_moves_ok
  obtain ⟨of, arr, o1, o2⟩ := id O
  have hL := rmI_le (f + n)
  have hlen := (S (f + n) (by omega)).1
  rw [hN.len] at hlen
  refine fst1_ok X (dk rfl) rfl ?_
  refine callNR_ok (av := [vI n]) (r := []) X E (s6_isName h (x := n) (by omega)) lkX6_isName mnX0_23 lsX6_isName ⟨Nat.le_of_ble_eq_true rfl, Nat.le_of_ble_eq_true rfl⟩ ⟨Nat.le_of_ble_eq_true rfl, Nat.le_of_ble_eq_true rfl⟩ (Nat.le_of_ble_eq_true rfl) (dk rfl) ?_
  rintro _ rfl
  rw [decide_eq_true hn]
  refine br_ok X (dk rfl) rfl (show ((4 : Nat) : Int) + 34 = ((38 : Nat) : Int) from rfl) (fun q => absurd q bI_t) (fun _ => ?_)
  refine fst1_ok X (dk rfl) rfl ?_
  refine getf_ok X flX0_11 (dk rfl) o1 rfl ?_
  refine fst1_ok X (dk rfl) rfl ?_
  refine aldr_ok X (Or.inl rfl) (dk rfl) o2 (by omega) (rgB_get B f (k := n) (by omega)) ?_
  refine callVR_ok (ci := 7) (T := TX5) (N := 3) (av := []) (r := []) X E (s5_length h S (i := f + n) (by omega)) lkX5_length mlX0_34 lmX5_length lpX5_length ⟨Nat.le_of_ble_eq_true rfl, Nat.le_of_ble_eq_true rfl⟩ ⟨Nat.le_of_ble_eq_true rfl, Nat.le_of_ble_eq_true rfl⟩ rfl ⟨_, (S (f + n) (by omega)).2.1⟩ (Nat.le_of_ble_eq_true rfl) (dk rfl) ?_
  rintro _ rfl
  rw [hN.len]
  refine fst1_ok X (dk rfl) rfl ?_
  by_cases h1 : ns.length = 1
  · refine br_ok X (dk rfl) rfl (show ((17 : Nat) : Int) + 17 = ((34 : Nat) : Int) from rfl) (fun q => absurd (by rw [h1]; exact nI_1'.symm) q) (fun _ => ?_)
    refine fst1_ok X (dk rfl) rfl ?_
    refine getf_ok X flX0_11 (dk rfl) o1 rfl ?_
    refine fst1_ok X (dk rfl) rfl ?_
    refine aldr_ok X (Or.inl rfl) (dk rfl) o2 (by omega) (rgB_get B f (k := n) (by omega)) ?_
    refine fst1_ok X (dk rfl) rfl ?_
    refine callVR_ok (ci := 7) (T := TX5) (N := 3) (av := [vI 0]) (r := []) X E (s5_letterAt h S (i := f + n) (by omega) (nI 0)) lkX5_letterAt mlX0_38 lmX5_letterAt lpX5_letterAt ⟨Nat.le_of_ble_eq_true rfl, Nat.le_of_ble_eq_true rfl⟩ ⟨Nat.le_of_ble_eq_true rfl, Nat.le_of_ble_eq_true rfl⟩ rfl ⟨_, (S (f + n) (by omega)).2.1⟩ (Nat.le_of_ble_eq_true rfl) (dk rfl) ?_
    rintro _ rfl
    obtain ⟨y, hy⟩ : ∃ y, ns[0]? = some y := ⟨_, List.getElem?_eq_getElem (by omega)⟩
    have hyx := (hN.2 y (List.mem_of_getElem? hy)).lt
    rw [hN.lt hy (by omega)]
    have ens : ns = [y] := by
      match ns, h1, hy with
      | [z], _, hy => cases hy; rfl
    refine fst1_ok X (dk rfl) rfl ?_
    by_cases hyn : y = n
    · rw [decide_eq_false (fun z => z (by rw [ens, hyn]))]
      refine br_ok X (dk rfl) rfl (show ((31 : Nat) : Int) + 7 = ((38 : Nat) : Int) from rfl) (fun _ => ?_) (fun q => absurd (by rw [hyn]) q)
      refine fst1_ok X (dk rfl) rfl ?_
      exact reti_ok X hr hlk (bI_n false) (dk rfl) ⟨rfl, rfl⟩ (Nat.le_of_ble_eq_true rfl) (Nat.le_of_ble_eq_true rfl)
    · rw [decide_eq_true (show ns ≠ [n] from fun z => hyn (by rw [ens] at z; cases z; rfl))]
      refine br_ok X (dk rfl) rfl (show ((31 : Nat) : Int) + 7 = ((38 : Nat) : Int) from rfl) (fun q => absurd ((nI_eq (by omega) (by omega)).mp q) hyn) (fun _ => ?_)
      refine fst1_ok X (dk rfl) rfl ?_
      refine br_ok X (dk rfl) rfl (show ((35 : Nat) : Int) + 4 = ((39 : Nat) : Int) from rfl) (fun _ => ?_) (fun q => absurd trivial q)
      exact reti_ok X hr hlk (bI_n true) (dk rfl) ⟨rfl, rfl⟩ (Nat.le_of_ble_eq_true rfl) (Nat.le_of_ble_eq_true rfl)
  · rw [decide_eq_true (show ns ≠ [n] from fun z => h1 (by rw [z]; rfl))]
    refine br_ok X (dk rfl) rfl (show ((17 : Nat) : Int) + 17 = ((34 : Nat) : Int) from rfl) (fun _ => ?_) (fun q => absurd (fun z => h1 ((nI_eq (by omega) (by omega)).mp (z.trans nI_1'))) q)
    refine fst1_ok X (dk rfl) rfl ?_
    refine br_ok X (dk rfl) rfl (show ((35 : Nat) : Int) + 4 = ((39 : Nat) : Int) from rfl) (fun _ => ?_) (fun q => absurd trivial q)
    exact reti_ok X hr hlk (bI_n true) (dk rfl) ⟨rfl, rfl⟩ (Nat.le_of_ble_eq_true rfl) (Nat.le_of_ble_eq_true rfl)
set_option maxHeartbeats 8000000 in
theorem s0_movedNames (h : AH) (S : TS B Q h F) {o f : Nat} (O : AnO B h o f) {rows : List (List Nat)} (H : RWX F f rows) : CT la D cA B0 pa yX0_movedNames cX0_movedNames 3 (some .int) (rmD 2 0 0) [.ref o] h (RP (vI (movedN rows 8)) h) := by
  refine CT_of (by decide +kernel) (Nat.le_of_ble_eq_true rfl) ?_
  intro p e s m args below meth c X E hr hlk hnm
  have dk : ∀ {pc : Nat} {q : Instr × Nat}, lkd DX0_movedNames pc = some q → decode cX0_movedNames pc = .ok q := lkd_ok DX0_movedNames_ok
  have loop : ∀ (d k : Nat), d = 8 - k → k ≤ 8 → ∀ l : List (Nat × Value), lsel l [2, 1, 0] = [(2, vI k), (1, vI (movedN rows k)), (0, .ref o)] → WR p la e (rmD 2 0 0) s m args below meth c D cA B0 3 (RP (vI (movedN rows 8)) h) 4 l [] h 0 0 := by
    intro d
    induction d with
    | zero =>
      intro k hd hk l hl
      have hk2 : k = 8 := by omega
      subst hk2
      refine WS.sel [2, 1, 0] hl ?_
      iterate 2 refine fst1_ok X (dk rfl) rfl ?_
      refine br_ok X (dk rfl) rfl (show ((7 : Nat) : Int) + 23 = ((30 : Nat) : Int) from rfl) (fun _ => ?_) (fun q => absurd (by rw [nI_8']; exact Int32.le_refl _) q)
      refine fst1_ok X (dk rfl) rfl ?_
      exact reti_ok X hr hlk rfl (dk rfl) ⟨rfl, rfl⟩ (Nat.le_of_ble_eq_true rfl) (Nat.le_of_ble_eq_true rfl)
    | succ d ih =>
      intro k hd hk l hl
      obtain ⟨ns, n1, n2, -, -⟩ := H.tn (n := k) (by omega)
      refine WS.sel [2, 1, 0] hl ?_
      iterate 2 refine fst1_ok X (dk rfl) rfl ?_
      refine br_ok X (dk rfl) rfl (show ((7 : Nat) : Int) + 23 = ((30 : Nat) : Int) from rfl) (fun q => absurd q (by rw [nI_8']; exact nI_ge (by omega) (by omega))) (fun _ => ?_)
      iterate 2 refine fst1_ok X (dk rfl) rfl ?_
      refine callVR_ok (ci := 2) (T := TX0) (N := 1) (av := [vI k]) (r := []) X E (s0_moves h S O (n := k) (by omega) n2) lkX0_moves mlX0_42 lmX0_moves lpX0_moves ⟨Nat.le_of_ble_eq_true rfl, Nat.le_of_ble_eq_true rfl⟩ ⟨Nat.le_of_ble_eq_true rfl, Nat.le_of_ble_eq_true rfl⟩ rfl ⟨_, O.2.choose_spec.1⟩ (Nat.le_of_ble_eq_true rfl) (dk rfl) ?_
      rintro _ rfl
      have f2 : Value.int (nI k + Int32.ofInt 1) = vI (k + 1) := congrArg Value.int (by rw [nI_1', nI_add])
      by_cases e : ns = [k]
      · have hm : movedN rows (k + 1) = movedN rows k := by
          show (if rows[k]? = some [k] then _ else _) = _
          rw [if_pos (by rw [n1, e])]
        rw [decide_eq_false (fun z => z e)]
        refine br_ok X (dk rfl) rfl (show ((15 : Nat) : Int) + 9 = ((24 : Nat) : Int) from rfl) (fun _ => ?_) (fun q => absurd bI_f' q)
        refine fst1_ok X (dk rfl) rfl ?_
        refine br_ok X (dk rfl) rfl (show ((27 : Nat) : Int) + (-23) = ((4 : Nat) : Int) from rfl) (fun _ => ?_) (fun q => absurd trivial q)
        refine WS.sel (l' := [(2, vI (k + 1)), (1, vI (movedN rows (k + 1))), (0, .ref o)]) [2, 1, 0] (by rw [← f2, hm]; rfl) ?_
        exact ih (k + 1) (by omega) (by omega) _ rfl
      · have hm : movedN rows (k + 1) = movedN rows k ||| 2 ^ k := by
          show (if rows[k]? = some [k] then _ else _) = _
          rw [if_neg (by rw [n1]; exact fun z => e (Option.some.inj z))]
        rw [decide_eq_true e]
        refine br_ok X (dk rfl) rfl (show ((15 : Nat) : Int) + 9 = ((24 : Nat) : Int) from rfl) (fun q => absurd q bI_t) (fun _ => ?_)
        iterate 7 refine fst1_ok X (dk rfl) rfl ?_
        refine br_ok X (dk rfl) rfl (show ((27 : Nat) : Int) + (-23) = ((4 : Nat) : Int) from rfl) (fun _ => ?_) (fun q => absurd trivial q)
        have f3 : Value.int (nI (movedN rows k) ||| Int32.ofInt 1 <<< (nI k &&& 31)) = vI (movedN rows (k + 1)) := congrArg Value.int (by rw [shl1 k (by omega), nI_or, hm])
        refine WS.sel (l' := [(2, vI (k + 1)), (1, vI (movedN rows (k + 1))), (0, .ref o)]) [2, 1, 0] (by rw [← f2, ← f3]; rfl) ?_
        exact ih (k + 1) (by omega) (by omega) _ rfl
  iterate 4 refine fst1_ok X (dk rfl) rfl ?_
  exact loop _ 0 rfl (Nat.zero_le _) _ rfl
set_option maxHeartbeats 4000000 in
theorem s0_movedCount (h : AH) (S : TS B Q h F) {o f : Nat} (O : AnO B h o f) {rows : List (List Nat)} (H : RWX F f rows) : CT la D cA B0 pa yX0_movedCount cX0_movedCount 1 (some .int) (rmD 3 0 0) [.ref o] h (RP (.int (bcF (nI (movedN rows 8)))) h) := by
  refine CT_of (by decide +kernel) (Nat.le_of_ble_eq_true rfl) ?_
  intro p e s m args below meth c X E hr hlk hnm
  have dk : ∀ {pc : Nat} {q : Instr × Nat}, lkd DX0_movedCount pc = some q → decode cX0_movedCount pc = .ok q := lkd_ok DX0_movedCount_ok
  refine fst1_ok X (dk rfl) rfl ?_
  refine callVR_ok (ci := 2) (T := TX0) (N := 1) (av := []) (r := []) X E (s0_movedNames h S O H) lkX0_movedNames mlX0_45 lmX0_movedNames lpX0_movedNames ⟨Nat.le_of_ble_eq_true rfl, Nat.le_of_ble_eq_true rfl⟩ ⟨Nat.le_of_ble_eq_true rfl, Nat.le_of_ble_eq_true rfl⟩ rfl ⟨_, O.2.choose_spec.1⟩ (Nat.le_of_ble_eq_true rfl) (dk rfl) ?_
  rintro _ rfl
  refine callS_ok (av := [vI (movedN rows 8)]) (r := []) X E (c_bitCount h _) lkJ6_bitCount_0f7a4 mlX0_48 lsJ6_bitCount_0f7a4 ⟨Nat.le_of_ble_eq_true rfl, Nat.le_of_ble_eq_true rfl⟩ ⟨Nat.le_of_ble_eq_true rfl, Nat.le_of_ble_eq_true rfl⟩ (Nat.le_of_ble_eq_true rfl) (dk rfl) ?_
  rintro v h' ⟨rfl, rfl⟩
  exact reti_ok X hr hlk rfl (dk rfl) ⟨rfl, rfl⟩ (Nat.le_of_ble_eq_true rfl) (Nat.le_of_ble_eq_true rfl)
def tlA (F : Nat → TC) (f : Nat) : Nat → Bool
  | 0 => false
  | k + 1 => tlA F f k || (F (f + k)).2
theorem tlA_le (F : Nat → TC) (f : Nat) {k : Nat} (h : (F (f + k)).2 = true) : ∀ n, k < n → tlA F f n = true
  | n + 1, hn => by
    unfold tlA
    rcases Nat.lt_or_ge k n with q | q
    · rw [tlA_le F f h n q]; rfl
    · have : k = n := by omega
      subst this
      rw [h, Bool.or_true]
set_option maxHeartbeats 8000000 in
theorem s0_isTooLong (h : AH) (S : TS B Q h F) {o f : Nat} (O : AnO B h o f) : CT la D cA B0 pa yX0_isTooLong cX0_isTooLong 5 (some .boolean) (rmD 1 0 0) [.ref o] h (RP (.int (bI (tlA F f 8))) h) := by
  refine CT_of (by decide +kernel) (Nat.le_of_ble_eq_true rfl) ?_
  intro p e s m args below meth c X E hr hlk hnm
  have dk : ∀ {pc : Nat} {q : Instr × Nat}, lkd DX0_isTooLong pc = some q → decode cX0_isTooLong pc = .ok q := lkd_ok DX0_isTooLong_ok
  obtain ⟨of, arr, o1, o2⟩ := id O
  have loop : ∀ (d k : Nat), d = 8 - k → k ≤ 8 → tlA F f k = false → ∀ l : List (Nat × Value), lsel l [3, 2, 1] = [(3, vI k), (2, vI 8), (1, .ref arr)] → WR p la e (rmD 1 0 0) s m args below meth c D cA B0 5 (RP (.int (bI (tlA F f 8))) h) 10 l [] h 0 0 := by
    intro d
    induction d with
    | zero =>
      intro k hd hk e l hl
      have hk2 : k = 8 := by omega
      subst hk2
      rw [e]
      refine WS.sel [3, 2, 1] hl ?_
      iterate 2 refine fst1_ok X (dk rfl) rfl ?_
      refine br_ok X (dk rfl) rfl (show ((12 : Nat) : Int) + 24 = ((36 : Nat) : Int) from rfl) (fun _ => ?_) (fun q => absurd (Int32.le_refl _) q)
      refine fst1_ok X (dk rfl) rfl ?_
      exact reti_ok X hr hlk (bI_n false) (dk rfl) ⟨rfl, rfl⟩ (Nat.le_of_ble_eq_true rfl) (Nat.le_of_ble_eq_true rfl)
    | succ d ih =>
      intro k hd hk e l hl
      refine WS.sel [3, 2, 1] hl ?_
      iterate 2 refine fst1_ok X (dk rfl) rfl ?_
      refine br_ok X (dk rfl) rfl (show ((12 : Nat) : Int) + 24 = ((36 : Nat) : Int) from rfl) (fun q => absurd q (nI_ge (a := k) (b := 8) (by omega) (by omega))) (fun _ => ?_)
      iterate 2 refine fst1_ok X (dk rfl) rfl ?_
      refine aldr_ok X (Or.inl rfl) (dk rfl) o2 (by omega) (rgB_get B f (k := k) (by omega)) ?_
      iterate 2 refine fst1_ok X (dk rfl) rfl ?_
      refine callVR_ok (ci := 7) (T := TX5) (N := 3) (av := []) (r := []) X E (s5_isTooLong h S (i := f + k) (by omega)) lkX5_isTooLong mlX0_70 lmX5_isTooLong lpX5_isTooLong ⟨Nat.le_of_ble_eq_true rfl, Nat.le_of_ble_eq_true rfl⟩ ⟨Nat.le_of_ble_eq_true rfl, Nat.le_of_ble_eq_true rfl⟩ rfl ⟨_, (S (f + k) (by omega)).2.1⟩ (Nat.le_of_ble_eq_true rfl) (dk rfl) ?_
      rintro _ rfl
      cases hb : (F (f + k)).2 with
      | true =>
        rw [tlA_le F f hb 8 (by omega)]
        refine br_ok X (dk rfl) rfl (show ((25 : Nat) : Int) + 5 = ((30 : Nat) : Int) from rfl) (fun q => absurd q bI_t) (fun _ => ?_)
        refine fst1_ok X (dk rfl) rfl ?_
        exact reti_ok X hr hlk (bI_n true) (dk rfl) ⟨rfl, rfl⟩ (Nat.le_of_ble_eq_true rfl) (Nat.le_of_ble_eq_true rfl)
      | false =>
        refine br_ok X (dk rfl) rfl (show ((25 : Nat) : Int) + 5 = ((30 : Nat) : Int) from rfl) (fun _ => ?_) (fun q => absurd bI_f' q)
        refine fst1_ok X (dk rfl) rfl ?_
        refine br_ok X (dk rfl) rfl (show ((33 : Nat) : Int) + (-23) = ((10 : Nat) : Int) from rfl) (fun _ => ?_) (fun q => absurd trivial q)
        have f2 : Value.int (nI k + Int32.ofInt 1) = vI (k + 1) := congrArg Value.int (by rw [nI_1', nI_add])
        refine WS.sel (l' := [(3, vI (k + 1)), (2, vI 8), (1, .ref arr)]) [3, 2, 1] (by rw [← f2]; rfl) ?_
        exact ih (k + 1) (by omega) (by omega) (by unfold tlA; rw [e, hb]; rfl) _ rfl
  refine fst1_ok X (dk rfl) rfl ?_
  refine getf_ok X flX0_11 (dk rfl) o1 rfl ?_
  iterate 2 refine fst1_ok X (dk rfl) rfl ?_
  refine alen_ok X (by decide) (dk rfl) o2 ?_
  rw [show ((rgB B f 8).map Value.ref).length = 8 by simp [rgB]]
  iterate 3 refine fst1_ok X (dk rfl) rfl ?_
  exact loop 8 0 rfl (Nat.zero_le _) rfl _ rfl
set_option maxHeartbeats 8000000 in
theorem s0_moveNone (h : AH) (Y : LYO B Q) (S : TS B Q h F) {o f : Nat} (O : AnO B h o f) : CT la D cA B0 pa yX0_moveNone cX0_moveNone 2 none (rmD 2 0 0) [.ref o] h (TP B Q (upK F f (fun n => ([nI n], false)) 8) h) := by
  refine CT_of (by decide +kernel) (Nat.le_of_ble_eq_true rfl) ?_
  intro p e s m args below meth c X E hr hlk hnm
  have dk : ∀ {pc : Nat} {q : Instr × Nat}, lkd DX0_moveNone pc = some q → decode cX0_moveNone pc = .ok q := lkd_ok DX0_moveNone_ok
  obtain ⟨of, arr, o1, o2⟩ := id O
  have loop : ∀ (d k : Nat) (h1 : AH), d = 8 - k → k ≤ 8 → TS B Q h1 (upK F f (fun n => ([nI n], false)) k) → FrT B Q h h1 → ∀ l : List (Nat × Value), lsel l [1, 0] = [(1, vI k), (0, .ref o)] → WR p la e (rmD 2 0 0) s m args below meth c D cA B0 2 (TP B Q (upK F f (fun n => ([nI n], false)) 8) h) 2 l [] h1 0 0 := by
    intro d
    induction d with
    | zero =>
      intro k h1 hd hk S1 f1 l hl
      have hk2 : k = 8 := by omega
      subst hk2
      refine WS.sel [1, 0] hl ?_
      iterate 2 refine fst1_ok X (dk rfl) rfl ?_
      refine br_ok X (dk rfl) rfl (show ((5 : Nat) : Int) + 19 = ((24 : Nat) : Int) from rfl) (fun _ => ?_) (fun q => absurd (by rw [nI_8']; exact Int32.le_refl _) q)
      exact retv_ok X hr hlk (dk rfl) ⟨rfl, S1, f1⟩ (Nat.le_of_ble_eq_true rfl) (Nat.le_of_ble_eq_true rfl)
    | succ d ih =>
      intro k h1 hd hk S1 f1 l hl
      have p1 := f1.keep S o1 (by decide) (by decide)
      have p2 := f1.keep S o2 (by decide) (by decide)
      refine WS.sel [1, 0] hl ?_
      iterate 2 refine fst1_ok X (dk rfl) rfl ?_
      refine br_ok X (dk rfl) rfl (show ((5 : Nat) : Int) + 19 = ((24 : Nat) : Int) from rfl) (fun q => absurd q (by rw [nI_8']; exact nI_ge (by omega) (by omega))) (fun _ => ?_)
      refine fst1_ok X (dk rfl) rfl ?_
      refine getf_ok X flX0_11 (dk rfl) p1 rfl ?_
      refine fst1_ok X (dk rfl) rfl ?_
      refine aldr_ok X (Or.inl rfl) (dk rfl) p2 (by omega) (rgB_get B f (k := k) (by omega)) ?_
      refine fst1_ok X (dk rfl) rfl ?_
      refine callVT_ok (ci := 7) (T := TX5) (N := 3) (av := [vI k]) (r := []) X E (s5_becomeName h1 Y S1 (i := f + k) (by omega) (nI k)) lkX5_becomeName mlX0_20 lmX5_becomeName lpX5_becomeName ⟨Nat.le_of_ble_eq_true rfl, Nat.le_of_ble_eq_true rfl⟩ ⟨Nat.le_of_ble_eq_true rfl, Nat.le_of_ble_eq_true rfl⟩ rfl (S1 (f + k) (by omega)).2.1 (Nat.le_of_ble_eq_true rfl) (dk rfl) (fun h2 S2 f2 => ?_)
      rw [show (([nI k], false) : TC) = (fun n => ([nI n], false)) k from rfl, upK_up] at S2
      refine fst1_ok X (dk rfl) rfl ?_
      refine br_ok X (dk rfl) rfl (show ((21 : Nat) : Int) + (-19) = ((2 : Nat) : Int) from rfl) (fun _ => ?_) (fun q => absurd trivial q)
      have f3 : Value.int (nI k + Int32.ofInt 1) = vI (k + 1) := congrArg Value.int (by rw [nI_1', nI_add])
      refine WS.sel (l' := [(1, vI (k + 1)), (0, .ref o)]) [1, 0] (by rw [← f3]; rfl) ?_
      exact ih (k + 1) h2 (by omega) (by omega) S2 (f1.trans f2) _ rfl
  iterate 2 refine fst1_ok X (dk rfl) rfl ?_
  exact loop 8 0 h rfl (Nat.zero_le _) (by rw [upK_0]; exact S) (FrT.rf h) _ rfl
set_option maxHeartbeats 8000000 in
theorem s0_becomeAs (h : AH) (Y : LYO B Q) (S : TS B Q h F) {o f : Nat} (O : AnO B h o f) {o3 g : Nat} (O2 : AnO B h o3 g) (hd0 : f = g ∨ f + 8 ≤ g ∨ g + 8 ≤ f) (hl0 : ∀ n, n < 8 → (F (g + n)).1.length ≤ 16) : CT la D cA B0 pa yX0_becomeAs cX0_becomeAs 3 none (rmD 3 0 0) [.ref o, .ref o3] h (TP B Q (upK F f (fun n => F (g + n)) 8) h) := by
  refine CT_of (by decide +kernel) (Nat.le_of_ble_eq_true rfl) ?_
  intro p e s m args below meth c X E hr hlk hnm
  have dk : ∀ {pc : Nat} {q : Instr × Nat}, lkd DX0_becomeAs pc = some q → decode cX0_becomeAs pc = .ok q := lkd_ok DX0_becomeAs_ok
  obtain ⟨of, arr, o1, o2⟩ := id O
  obtain ⟨of2, arr2, o4, o5⟩ := id O2
  have loop : ∀ (d k : Nat) (h1 : AH), d = 8 - k → k ≤ 8 → TS B Q h1 (upK F f (fun n => F (g + n)) k) → FrT B Q h h1 → ∀ l : List (Nat × Value), lsel l [2, 1, 0] = [(2, vI k), (1, .ref o3), (0, .ref o)] → WR p la e (rmD 3 0 0) s m args below meth c D cA B0 3 (TP B Q (upK F f (fun n => F (g + n)) 8) h) 2 l [] h1 0 0 := by
    intro d
    induction d with
    | zero =>
      intro k h1 hd hk S1 f1 l hl
      have hk2 : k = 8 := by omega
      subst hk2
      refine WS.sel [2, 1, 0] hl ?_
      iterate 2 refine fst1_ok X (dk rfl) rfl ?_
      refine br_ok X (dk rfl) rfl (show ((5 : Nat) : Int) + 24 = ((29 : Nat) : Int) from rfl) (fun _ => ?_) (fun q => absurd (by rw [nI_8']; exact Int32.le_refl _) q)
      exact retv_ok X hr hlk (dk rfl) ⟨rfl, S1, f1⟩ (Nat.le_of_ble_eq_true rfl) (Nat.le_of_ble_eq_true rfl)
    | succ d ih =>
      intro k h1 hd hk S1 f1 l hl
      have p1 := f1.keep S o1 (by decide) (by decide)
      have p2 := f1.keep S o2 (by decide) (by decide)
      have p4 := f1.keep S o4 (by decide) (by decide)
      have p5 := f1.keep S o5 (by decide) (by decide)
      have eg : upK F f (fun n => F (g + n)) k (g + k) = F (g + k) := upK_out F f _ (by omega)
      have hrm := rmI_ge (f + k)
      have hlq := hl0 k (by omega)
      refine WS.sel [2, 1, 0] hl ?_
      iterate 2 refine fst1_ok X (dk rfl) rfl ?_
      refine br_ok X (dk rfl) rfl (show ((5 : Nat) : Int) + 24 = ((29 : Nat) : Int) from rfl) (fun q => absurd q (by rw [nI_8']; exact nI_ge (by omega) (by omega))) (fun _ => ?_)
      refine fst1_ok X (dk rfl) rfl ?_
      refine getf_ok X flX0_11 (dk rfl) p1 rfl ?_
      refine fst1_ok X (dk rfl) rfl ?_
      refine aldr_ok X (Or.inl rfl) (dk rfl) p2 (by omega) (rgB_get B f (k := k) (by omega)) ?_
      refine fst1_ok X (dk rfl) rfl ?_
      refine getf_ok X flX0_11 (dk rfl) p4 rfl ?_
      refine fst1_ok X (dk rfl) rfl ?_
      refine aldr_ok X (Or.inl rfl) (dk rfl) p5 (by omega) (rgB_get B g (k := k) (by omega)) ?_
      refine callVT_ok (ci := 7) (T := TX5) (N := 3) (av := [.ref (B (g + k))]) (r := []) X E (s5_becomeAs h1 Y S1 (i := f + k) (by omega) (j := g + k) (by omega) (by rw [eg]; omega)) lkX5_becomeAs mlX0_53 lmX5_becomeAs lpX5_becomeAs ⟨Nat.le_of_ble_eq_true rfl, Nat.le_of_ble_eq_true rfl⟩ ⟨Nat.le_of_ble_eq_true rfl, Nat.le_of_ble_eq_true rfl⟩ rfl (S1 (f + k) (by omega)).2.1 (Nat.le_of_ble_eq_true rfl) (dk rfl) (fun h2 S2 f2 => ?_)
      rw [eg, show F (g + k) = (fun n => F (g + n)) k from rfl, upK_up] at S2
      refine fst1_ok X (dk rfl) rfl ?_
      refine br_ok X (dk rfl) rfl (show ((26 : Nat) : Int) + (-24) = ((2 : Nat) : Int) from rfl) (fun _ => ?_) (fun q => absurd trivial q)
      have f3 : Value.int (nI k + Int32.ofInt 1) = vI (k + 1) := congrArg Value.int (by rw [nI_1', nI_add])
      refine WS.sel (l' := [(2, vI (k + 1)), (1, .ref o3), (0, .ref o)]) [2, 1, 0] (by rw [← f3]; rfl) ?_
      exact ih (k + 1) h2 (by omega) (by omega) S2 (f1.trans f2) _ rfl
  iterate 2 refine fst1_ok X (dk rfl) rfl ?_
  exact loop 8 0 h rfl (Nat.zero_le _) (by rw [upK_0]; exact S) (FrT.rf h) _ rfl
set_option maxHeartbeats 16000000 in
theorem s0_addUsed (h : AH) (Y : LYO B Q) (S : TS B Q h F) {o f : Nat} (O : AnO B h o f) {i1 : Nat} (h1i : i1 < 52) {ns : List Nat} (hN : TN (F i1) ns) {i2 : Nat} (h2i : i2 < 52) (h12 : i1 ≠ i2) (h2f : i2 < f ∨ f + 8 ≤ i2) {a b : Nat} (hab : a ≤ b) (hb : b ≤ ns.length) : CT la D cA B0 pa yX0_addUsed cX0_addUsed 7 none (rmD 2 0 0) [.ref o, .ref (B i1), vI a, vI b, .ref (B i2)] h (TP B Q (upF F i2 (auC (rmI i2) F f (F i2) ((ns.drop a).take (b - a)))) h) := by
  refine CT_of (by decide +kernel) (Nat.le_of_ble_eq_true rfl) ?_
  intro p e s m args below meth c X E hr hlk hnm
  have dk : ∀ {pc : Nat} {q : Instr × Nat}, lkd DX0_addUsed pc = some q → decode cX0_addUsed pc = .ok q := lkd_ok DX0_addUsed_ok
  obtain ⟨of, arr, o1, o2⟩ := id O
  have hL := rmI_le i1
  have hlen := (S i1 h1i).1
  rw [hN.len] at hlen
  have loop : ∀ (d k : Nat) (t : TC) (h1 : AH), d = b - k → k ≤ b → TS B Q h1 (upF F i2 t) → FrT B Q h h1 → auC (rmI i2) F f t ((ns.drop k).take (b - k)) = (auC (rmI i2) F f (F i2) ((ns.drop a).take (b - a))) → ∀ l : List (Nat × Value), lsel l [5, 4, 3, 1, 0] = [(5, vI k), (4, .ref (B i2)), (3, vI b), (1, .ref (B i1)), (0, .ref o)] → WR p la e (rmD 2 0 0) s m args below meth c D cA B0 7 (TP B Q (upF F i2 (auC (rmI i2) F f (F i2) ((ns.drop a).take (b - a)))) h) 3 l [] h1 0 0 := by
    intro d
    induction d with
    | zero =>
      intro k t h1 hd hk S1 f1 eU l hl
      have hk2 : k = b := by omega
      rw [hk2, Nat.sub_self, List.take_zero] at eU
      have e2 : t = (auC (rmI i2) F f (F i2) ((ns.drop a).take (b - a))) := eU
      rw [e2] at S1
      refine WS.sel [5, 4, 3, 1, 0] hl ?_
      iterate 2 refine fst1_ok X (dk rfl) rfl ?_
      refine br_ok X (dk rfl) rfl (show ((6 : Nat) : Int) + 47 = ((53 : Nat) : Int) from rfl) (fun _ => ?_) (fun q => absurd (by rw [hk2]; exact Int32.le_refl _) q)
      exact retv_ok X hr hlk (dk rfl) ⟨rfl, S1, f1⟩ (Nat.le_of_ble_eq_true rfl) (Nat.le_of_ble_eq_true rfl)
    | succ d ih =>
      intro k t h1 hd hk S1 f1 eU l hl
      have p1 := f1.keep S o1 (by decide) (by decide)
      have p2 := f1.keep S o2 (by decide) (by decide)
      obtain ⟨y, hy⟩ : ∃ y, ns[k]? = some y := ⟨_, List.getElem?_eq_getElem (by omega)⟩
      have hok := hN.2 y (List.mem_of_getElem? hy)
      have hyx := hok.lt
      rw [drop_cons hy, show b - k = (b - (k + 1)) + 1 by omega, List.take_succ_cons] at eU
      have hN1 : TN (upF F i2 t i1) ns := by rw [upF_ne _ _ h12]; exact hN
      refine WS.sel [5, 4, 3, 1, 0] hl ?_
      iterate 2 refine fst1_ok X (dk rfl) rfl ?_
      refine br_ok X (dk rfl) rfl (show ((6 : Nat) : Int) + 47 = ((53 : Nat) : Int) from rfl) (fun q => absurd q (nI_ge (by omega) (by omega))) (fun _ => ?_)
      iterate 2 refine fst1_ok X (dk rfl) rfl ?_
      refine callVR_ok (ci := 7) (T := TX5) (N := 3) (av := [vI k]) (r := []) X E (s5_letterAt h1 S1 h1i (nI k)) lkX5_letterAt mlX0_38 lmX5_letterAt lpX5_letterAt ⟨Nat.le_of_ble_eq_true rfl, Nat.le_of_ble_eq_true rfl⟩ ⟨Nat.le_of_ble_eq_true rfl, Nat.le_of_ble_eq_true rfl⟩ rfl ⟨_, (S1 i1 h1i).2.1⟩ (Nat.le_of_ble_eq_true rfl) (dk rfl) ?_
      rintro _ rfl
      rw [hN1.lt hy (by omega)]
      iterate 2 refine fst1_ok X (dk rfl) rfl ?_
      refine callNR_ok (av := [vI y]) (r := []) X E (s6_isName h1 (x := y) (by omega)) lkX6_isName mnX0_23 lsX6_isName ⟨Nat.le_of_ble_eq_true rfl, Nat.le_of_ble_eq_true rfl⟩ ⟨Nat.le_of_ble_eq_true rfl, Nat.le_of_ble_eq_true rfl⟩ (Nat.le_of_ble_eq_true rfl) (dk rfl) ?_
      rintro _ rfl
      have f3 : Value.int (nI k + Int32.ofInt 1) = vI (k + 1) := congrArg Value.int (by rw [nI_1', nI_add])
      have nxt : ∀ (h2 : AH), TS B Q h2 (upF F i2 (if y < 8 then addT (rmI i2) t (F (f + y)) else addC (rmI i2) t (nI y))) → FrT B Q h1 h2 → ∀ l : List (Nat × Value), lsel l [5, 4, 3, 1, 0] = [(5, vI k), (4, .ref (B i2)), (3, vI b), (1, .ref (B i1)), (0, .ref o)] → WR p la e (rmD 2 0 0) s m args below meth c D cA B0 7 (TP B Q (upF F i2 (auC (rmI i2) F f (F i2) ((ns.drop a).take (b - a)))) h) 47 l [] h2 0 0 := by
        intro h2 S2 f2 l hl
        refine WS.sel [5, 4, 3, 1, 0] hl ?_
        refine fst1_ok X (dk rfl) rfl ?_
        refine br_ok X (dk rfl) rfl (show ((50 : Nat) : Int) + (-47) = ((3 : Nat) : Int) from rfl) (fun _ => ?_) (fun q => absurd trivial q)
        refine WS.sel (l' := [(5, vI (k + 1)), (4, .ref (B i2)), (3, vI b), (1, .ref (B i1)), (0, .ref o)]) [5, 4, 3, 1, 0] (by rw [← f3]; rfl) ?_
        exact ih (k + 1) _ h2 (by omega) (by omega) S2 (f1.trans f2) eU _ rfl
      by_cases h8 : y < 8
      · rw [decide_eq_true h8]
        rw [if_pos h8] at nxt
        refine br_ok X (dk rfl) rfl (show ((22 : Nat) : Int) + 18 = ((40 : Nat) : Int) from rfl) (fun q => absurd q bI_t) (fun _ => ?_)
        iterate 2 refine fst1_ok X (dk rfl) rfl ?_
        refine getf_ok X flX0_11 (dk rfl) p1 rfl ?_
        refine fst1_ok X (dk rfl) rfl ?_
        refine aldr_ok X (Or.inl rfl) (dk rfl) p2 (by omega) (rgB_get B f (k := y) (by omega)) ?_
        refine callVT_ok (ci := 7) (T := TX5) (N := 3) (av := [.ref (B (f + y))]) (r := []) X E (s5_addTerm h1 Y S1 h2i (j := f + y) (by omega) (by omega)) lkX5_addTerm mlX0_64 lmX5_addTerm lpX5_addTerm ⟨Nat.le_of_ble_eq_true rfl, Nat.le_of_ble_eq_true rfl⟩ ⟨Nat.le_of_ble_eq_true rfl, Nat.le_of_ble_eq_true rfl⟩ rfl (S1 i2 h2i).2.1 (Nat.le_of_ble_eq_true rfl) (dk rfl) (fun h2 S2 f2 => ?_)
        rw [upF_self, upF_up, upF_ne _ _ (by omega)] at S2
        refine br_ok X (dk rfl) rfl (show ((37 : Nat) : Int) + 10 = ((47 : Nat) : Int) from rfl) (fun _ => ?_) (fun q => absurd trivial q)
        exact nxt h2 S2 f2 _ rfl
      · rw [decide_eq_false h8]
        rw [if_neg h8] at nxt
        refine br_ok X (dk rfl) rfl (show ((22 : Nat) : Int) + 18 = ((40 : Nat) : Int) from rfl) (fun _ => ?_) (fun q => absurd bI_f' q)
        iterate 2 refine fst1_ok X (dk rfl) rfl ?_
        refine callVT_ok (ci := 7) (T := TX5) (N := 3) (av := [vI y]) (r := []) X E (s5_add h1 Y S1 h2i (nI y)) lkX5_add mlX0_67 lmX5_add lpX5_add ⟨Nat.le_of_ble_eq_true rfl, Nat.le_of_ble_eq_true rfl⟩ ⟨Nat.le_of_ble_eq_true rfl, Nat.le_of_ble_eq_true rfl⟩ rfl (S1 i2 h2i).2.1 (Nat.le_of_ble_eq_true rfl) (dk rfl) (fun h2 S2 f2 => ?_)
        rw [upF_self, upF_up] at S2
        exact nxt h2 S2 f2 _ rfl
  iterate 2 refine fst1_ok X (dk rfl) rfl ?_
  exact loop _ a (F i2) h rfl hab (by rw [upF_same]; exact S) (FrT.rf h) rfl _ rfl
set_option maxHeartbeats 16000000 in
theorem s0_becomeBoth (h : AH) (Y : LYO B Q) (S : TS B Q h F) {o f : Nat} (O : AnO B h o f) {o3 g : Nat} (O2 : AnO B h o3 g) {o6 u : Nat} (O3 : AnO B h o6 u) (hfg : f + 8 ≤ g ∨ g + 8 ≤ f) (hfu : f + 8 ≤ u ∨ u + 8 ≤ f) (hrm : ∀ n, n < 8 → rmI (f + n) = 16) {rows : List (List Nat)} (H : RWX F g rows) : CT la D cA B0 pa yX0_becomeBoth cX0_becomeBoth 4 none (rmD 3 0 0) [.ref o, .ref o3, .ref o6] h (TP B Q (upK F f (fun n => auC 16 F u ([], false) (rows.getD n [])) 8) h) := by
  refine CT_of (by decide +kernel) (Nat.le_of_ble_eq_true rfl) ?_
  intro p e s m args below meth c X E hr hlk hnm
  have dk : ∀ {pc : Nat} {q : Instr × Nat}, lkd DX0_becomeBoth pc = some q → decode cX0_becomeBoth pc = .ok q := lkd_ok DX0_becomeBoth_ok
  obtain ⟨of, arr, o1, o2⟩ := id O
  obtain ⟨of2, arr2, o4, o5⟩ := id O2
  have loop : ∀ (d k : Nat) (h1 : AH), d = 8 - k → k ≤ 8 → TS B Q h1 (upK F f (fun n => auC 16 F u ([], false) (rows.getD n [])) k) → FrT B Q h h1 → ∀ l : List (Nat × Value), lsel l [3, 2, 1, 0] = [(3, vI k), (2, .ref o6), (1, .ref o3), (0, .ref o)] → WR p la e (rmD 3 0 0) s m args below meth c D cA B0 4 (TP B Q (upK F f (fun n => auC 16 F u ([], false) (rows.getD n [])) 8) h) 2 l [] h1 0 0 := by
    intro d
    induction d with
    | zero =>
      intro k h1 hd hk S1 f1 l hl
      have hk2 : k = 8 := by omega
      subst hk2
      refine WS.sel [3, 2, 1, 0] hl ?_
      iterate 2 refine fst1_ok X (dk rfl) rfl ?_
      refine br_ok X (dk rfl) rfl (show ((5 : Nat) : Int) + 44 = ((49 : Nat) : Int) from rfl) (fun _ => ?_) (fun q => absurd (by rw [nI_8']; exact Int32.le_refl _) q)
      exact retv_ok X hr hlk (dk rfl) ⟨rfl, S1, f1⟩ (Nat.le_of_ble_eq_true rfl) (Nat.le_of_ble_eq_true rfl)
    | succ d ih =>
      intro k h1 hd hk S1 f1 l hl
      have p1 := f1.keep S o1 (by decide) (by decide)
      have p2 := f1.keep S o2 (by decide) (by decide)
      have p4 := f1.keep S o4 (by decide) (by decide)
      have p5 := f1.keep S o5 (by decide) (by decide)
      obtain ⟨ns, n1, n2, n3, n4⟩ := H.tn (n := k) (by omega)
      refine WS.sel [3, 2, 1, 0] hl ?_
      iterate 2 refine fst1_ok X (dk rfl) rfl ?_
      refine br_ok X (dk rfl) rfl (show ((5 : Nat) : Int) + 44 = ((49 : Nat) : Int) from rfl) (fun q => absurd q (by rw [nI_8']; exact nI_ge (by omega) (by omega))) (fun _ => ?_)
      refine fst1_ok X (dk rfl) rfl ?_
      refine getf_ok X flX0_11 (dk rfl) p1 rfl ?_
      refine fst1_ok X (dk rfl) rfl ?_
      refine aldr_ok X (Or.inl rfl) (dk rfl) p2 (by omega) (rgB_get B f (k := k) (by omega)) ?_
      refine callVT_ok (ci := 7) (T := TX5) (N := 3) (av := []) (r := []) X E (s5_empty h1 Y S1 (i := f + k) (by omega)) lkX5_empty mlX0_57 lmX5_empty lpX5_empty ⟨Nat.le_of_ble_eq_true rfl, Nat.le_of_ble_eq_true rfl⟩ ⟨Nat.le_of_ble_eq_true rfl, Nat.le_of_ble_eq_true rfl⟩ rfl (S1 (f + k) (by omega)).2.1 (Nat.le_of_ble_eq_true rfl) (dk rfl) (fun h2 S2 f2 => ?_)
      have q1 := f2.keep S1 p1 (by decide) (by decide)
      have q2 := f2.keep S1 p2 (by decide) (by decide)
      have q4 := f2.keep S1 p4 (by decide) (by decide)
      have q5 := f2.keep S1 p5 (by decide) (by decide)
      have eF : ∀ j, (j < f ∨ f + 8 ≤ j) → upF (upK F f (fun n => auC 16 F u ([], false) (rows.getD n [])) k) (f + k) ([], false) j = F j := fun j hj => by rw [upF_ne _ _ (by omega), upK_out F f _ (by omega)]
      have n2b := n2
      rw [← eF (g + k) (by omega)] at n2b
      have O3b : AnO B h2 o6 u := (O3.keep S f1).keep S1 f2
      iterate 2 refine fst1_ok X (dk rfl) rfl ?_
      refine getf_ok X flX0_11 (dk rfl) q4 rfl ?_
      refine fst1_ok X (dk rfl) rfl ?_
      refine aldr_ok X (Or.inl rfl) (dk rfl) q5 (by omega) (rgB_get B g (k := k) (by omega)) ?_
      iterate 2 refine fst1_ok X (dk rfl) rfl ?_
      refine getf_ok X flX0_11 (dk rfl) q4 rfl ?_
      refine fst1_ok X (dk rfl) rfl ?_
      refine aldr_ok X (Or.inl rfl) (dk rfl) q5 (by omega) (rgB_get B g (k := k) (by omega)) ?_
      refine callVR_ok (ci := 7) (T := TX5) (N := 3) (av := []) (r := [vI 0, .ref (B (g + k)), .ref o6]) X E (s5_length h2 S2 (i := g + k) (by omega)) lkX5_length mlX0_34 lmX5_length lpX5_length ⟨Nat.le_of_ble_eq_true rfl, Nat.le_of_ble_eq_true rfl⟩ ⟨Nat.le_of_ble_eq_true rfl, Nat.le_of_ble_eq_true rfl⟩ rfl ⟨_, (S2 (g + k) (by omega)).2.1⟩ (Nat.le_of_ble_eq_true rfl) (dk rfl) ?_
      rintro _ rfl
      rw [n2b.len]
      refine fst1_ok X (dk rfl) rfl ?_
      refine getf_ok X flX0_11 (dk rfl) q1 rfl ?_
      refine fst1_ok X (dk rfl) rfl ?_
      refine aldr_ok X (Or.inl rfl) (dk rfl) q2 (by omega) (rgB_get B f (k := k) (by omega)) ?_
      refine callVT_ok (ci := 2) (T := TX0) (N := 1) (av := [.ref (B (g + k)), vI 0, vI ns.length, .ref (B (f + k))]) (r := []) X E (s0_addUsed h2 Y S2 O3b (i1 := g + k) (by omega) n2b (i2 := f + k) (by omega) (by omega) (by omega) (Nat.zero_le _) (Nat.le_refl _)) lkX0_addUsed mlX0_60 lmX0_addUsed lpX0_addUsed ⟨Nat.le_of_ble_eq_true rfl, Nat.le_of_ble_eq_true rfl⟩ ⟨Nat.le_of_ble_eq_true rfl, Nat.le_of_ble_eq_true rfl⟩ rfl O3b.2.choose_spec.1 (Nat.le_of_ble_eq_true rfl) (dk rfl) (fun h3 S3 f3 => ?_)
      rw [upF_up, upF_self, List.drop_zero, Nat.sub_zero, List.take_length, hrm k (by omega)] at S3
      have eA : auC 16 (upF (upK F f (fun n => auC 16 F u ([], false) (rows.getD n [])) k) (f + k) ([], false)) u ([], false) ns = (fun n => auC 16 F u ([], false) (rows.getD n [])) k := by
        have er : rows.getD k [] = ns := by rw [List.getD_eq_getElem?_getD, n1]; rfl
        show _ = auC 16 F u ([], false) (rows.getD k [])
        rw [er]
        unfold auC
        have hst : ∀ (xs : List Nat) (t : TC), xs.foldl (fun t x => if x < 8 then addT 16 t (upF (upK F f (fun n => auC 16 F u ([], false) (rows.getD n [])) k) (f + k) ([], false) (u + x)) else addC 16 t (nI x)) t = xs.foldl (fun t x => if x < 8 then addT 16 t (F (u + x)) else addC 16 t (nI x)) t := by
          intro xs
          induction xs with
          | nil => intro t; rfl
          | cons y r ihx =>
            intro t
            rw [List.foldl_cons, List.foldl_cons, ihx]
            congr 1
            by_cases hy : y < 8
            · rw [if_pos hy, if_pos hy, eF (u + y) (by omega)]
            · rw [if_neg hy, if_neg hy]
        exact hst ns _
      rw [eA, upK_up] at S3
      refine fst1_ok X (dk rfl) rfl ?_
      refine br_ok X (dk rfl) rfl (show ((46 : Nat) : Int) + (-44) = ((2 : Nat) : Int) from rfl) (fun _ => ?_) (fun q => absurd trivial q)
      have f4 : Value.int (nI k + Int32.ofInt 1) = vI (k + 1) := congrArg Value.int (by rw [nI_1', nI_add])
      refine WS.sel (l' := [(3, vI (k + 1)), (2, .ref o6), (1, .ref o3), (0, .ref o)]) [3, 2, 1, 0] (by rw [← f4]; rfl) ?_
      exact ih (k + 1) h3 (by omega) (by omega) S3 ((f1.trans f2).trans f3) _ rfl
  iterate 2 refine fst1_ok X (dk rfl) rfl ?_
  exact loop 8 0 h rfl (Nat.zero_le _) (by rw [upK_0]; exact S) (FrT.rf h) _ rfl
end S06
