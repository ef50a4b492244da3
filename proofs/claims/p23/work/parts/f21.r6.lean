/-! the reference's weight, exactly (printed by wip/q/genR6.py) -/
theorem or_bit : ∀ m : Nat, m < 256 → ∀ k : Nat, k < 8 → m < 2 ^ k → ∀ i : Nat, i < k + 1 → ((m ||| 2 ^ k) >>> i % 2 = if i = k then 1 else m >>> i % 2) := by decide +kernel
theorem movedN_bit (rows : List (List Nat)) : ∀ k : Nat, k ≤ 8 → ∀ i, i < k → movedN rows k >>> i % 2 = if rows[i]? = some [i] then 0 else 1
  | 0, _, i, h => absurd h (Nat.not_lt_zero _)
  | k + 1, hk, i, h => by
    have lt := movedN_lt rows k
    have l256 : movedN rows k < 256 := by
      have : 2 ^ k ≤ 2 ^ 8 := Nat.pow_le_pow_right (by decide) (by omega)
      omega
    unfold movedN
    by_cases c : rows[k]? = some [k]
    · rw [if_pos c]
      rcases Nat.lt_or_ge i k with z | z
      · exact movedN_bit rows k (by omega) i z
      · have e : i = k := by omega
        subst e
        rw [if_pos c, Nat.shiftRight_eq_div_pow, Nat.div_eq_of_lt lt]
    · rw [if_neg c, or_bit _ l256 k (by omega) lt i h]
      rcases Nat.lt_or_ge i k with z | z
      · rw [if_neg (by omega)]
        exact movedN_bit rows k (by omega) i z
      · have e : i = k := by omega
        subst e
        rw [if_pos rfl, if_neg c]
section R21
variable {la : Launch} {D : va_G} {cA : Nat → ClassId} {B0 pa : Nat} {o S A : Nat} {sl : List (List Nat)} {an : List (List (List Nat))} {da dr kn th : Int32}
set_option maxHeartbeats 4000000 in
theorem RF.x_weight (h : AH) (M : MD h o S A sl an da dr kn th) (x1 x2 : Int32) : CT la D cA B0 pa yX10_weight cX10_weight 8 (some .int) (rmD 5 9 16) [.ref o, .int x1, .int x2] h (refR o S A kn (aWeight x1 (decide (x2 ≠ 0)) (sl, an, da, dr)) h) := by
  refine CT_of (by decide +kernel) (Nat.le_of_ble_eq_true rfl) ?_
  intro p e s m args below meth c X E hr hlk hnm
  have dk : ∀ {pc : Nat} {q : Instr × Nat}, lkd DX10_weight pc = some q → decode cX10_weight pc = .ok q := lkd_ok DX10_weight_ok
  have mid1 : ∀ t1 : Bool, (t1 = false → inN 3 x1) → (t1 = true → ¬ (inN 3 x1)) → WR p la e (rmD 5 9 16) s m args below meth c D cA B0 8 (refR o S A kn (aWeight x1 (decide (x2 ≠ 0)) (sl, an, da, dr)) h) 13 (lv_args 0 [.ref o, .int x1, .int x2]) [.int (bI t1), .ref o] h 0 0 := by
    intro t1 ht1 hn1
    refine thr1_ok X E M ⟨Nat.le_of_ble_eq_true rfl, Nat.le_of_ble_eq_true rfl⟩ ⟨Nat.le_of_ble_eq_true rfl, Nat.le_of_ble_eq_true rfl⟩ (Nat.le_of_ble_eq_true rfl) (dk rfl) (fun h1 M1 F1 => ?_)
    cases hb : t1 with
    | true =>
      have hT1 : ¬ (inN 3 x1) → aWeight x1 (decide (x2 ≠ 0)) (sl, an, da, dr) = ((1, 0), (sl, an, da, dr)) := (fun hn => by
          unfold aWeight
          by_cases q0 : okI 3 x1 = true
          rotate_left
          · exact if_neg q0
          rw [if_pos q0]
          exact absurd (okI_in (by decide) q0) hn)
      have hE : aWeight x1 (decide (x2 ≠ 0)) (sl, an, da, dr) = ((thI t1 false, 0), (sl, an, da, dr)) := by
        rw [hb]
        exact hT1 (hn1 hb)
      refine br_ok X (dk rfl) rfl (show ((16 : Nat) : Int) + 5 = ((21 : Nat) : Int) from rfl) (fun q => absurd q bI_t) (fun _ => ?_)
      refine fst1_ok X (dk rfl) rfl ?_
      exact reti_ok X hr hlk rfl (dk rfl) (refR_thr M1 F1 hE (by decide +kernel)) (Nat.zero_le _) (Nat.zero_le _)
    | false =>
      refine br_ok X (dk rfl) rfl (show ((16 : Nat) : Int) + 5 = ((21 : Nat) : Int) from rfl) (fun _ => ?_) (fun q => absurd bI_f' q)
      obtain ⟨j1, hj1, rfl⟩ := ht1 hb
      have M1 : MD h1 o S A sl an da dr kn (nI 0) := by
        rw [hb] at M1
        exact M1
      obtain ⟨ss, s1, s2, s3⟩ := M1.slot
      obtain ⟨as, a1, a2, a3⟩ := M1.ans
      obtain ⟨b1, y1, e1, f1, g1, w1, n1⟩ := a3 j1 hj1
      repeat refine fst1_ok X (dk rfl) rfl ?_
      refine getf_ok X flX10_16 (dk rfl) M1.obj rfl ?_
      refine fst1_ok X (dk rfl) rfl ?_
      refine lda_ok X (dk rfl) a2 e1 (by omega) ?_
      obtain ⟨as1, as2, as3, as4⟩ := g1.row
      refine callS_ok (av := [.ref b1]) (r := []) X E (c_movedBy h1 g1 w1) lkX10_movedBy mlX10_141 lsX10_movedBy ⟨Nat.le_of_ble_eq_true rfl, Nat.le_of_ble_eq_true rfl⟩ ⟨Nat.le_of_ble_eq_true rfl, Nat.le_of_ble_eq_true rfl⟩ (Nat.le_of_ble_eq_true rfl) (dk rfl) ?_
      rintro v h2 ⟨rfl, E1⟩
      have hm := movedN_lt y1 8
      have hbit := movedN_bit y1 8 (Nat.le_refl _)
      obtain ⟨mm, emm⟩ : ∃ mm, movedN y1 8 = mm := ⟨_, rfl⟩
      rw [emm] at hm hbit ⊢
      obtain ⟨hc1, hc2⟩ := cnt_bc (m := mm) (by omega)
      repeat refine fst1_ok X (dk rfl) rfl ?_
      refine callS_ok (av := [vI mm]) (r := []) X E (c_ones h2 (nI mm)) lkX10_ones mlX10_128 lsX10_ones ⟨Nat.le_of_ble_eq_true rfl, Nat.le_of_ble_eq_true rfl⟩ ⟨Nat.le_of_ble_eq_true rfl, Nat.le_of_ble_eq_true rfl⟩ (Nat.le_of_ble_eq_true rfl) (dk rfl) ?_
      rintro v h3 ⟨rfl, rfl⟩
      rw [hc1]
      refine newR_ok (N := cntN mm 8) (kd := 105) X E (by decide) cl10_9 (by omega) (dk rfl) (Nat.le_of_ble_eq_true rfl) (by show 8 + 0 + cntN mm 8 ≤ 16; omega) (fun F hF hBF => ?_)
      have M2 := M1.ext E1
      have e0 : ((105, List.replicate (cntN mm 8) Value.null) : AC) = (105, filR [] (cntN mm 8)) := by rw [filR_0]
      rw [e0]
      refine WS.widen (k' := 9) (n' := 16) (Nat.le_of_ble_eq_true rfl) (by show 8 + 0 + cntN mm 8 ≤ 16; omega) ?_
      have loop : ∀ (d i : Nat), d = 8 - i → i ≤ 8 → ∀ (hh : AH) (rs : List Nat) (rows : List (List Nat)) (z : Int32) (l : List (Nat × Value)), rows = mvR y1 i → z = nI rows.flatten.length → lsel l [7, 6, 5, 4, 3, 2, 1, 0] = [(7, vI i), (6, .int z), (5, vI (cntN mm i)), (4, .ref F), (3, vI mm), (2, .int x2), (1, vI j1), (0, .ref o)] → Ext h3 hh → rs.length = cntN mm i → rows.length = rs.length → hh F = some (105, filR rs (cntN mm 8)) → (∀ (k u : Nat) (w : List Nat), rs[k]? = some u → rows[k]? = some w → hh u = some (IA w)) → (∀ w ∈ rows, TW w ∧ w.length ≤ 16) → WR p la e (rmD 5 9 16) s m args below meth c D cA B0 8 (refR o S A kn (aWeight (nI j1) (decide (x2 ≠ 0)) (sl, an, da, dr)) h) 49 l [] hh 9 16 := by
        intro d
        induction d with
        | zero =>
          intro i hd hi hh rs rows z l er ez hl XX h1l h2l hFh hrs hro
          have hi2 : i = 8 := by omega
          subst hi2
          have M3 := M2.ext XX
          refine WS.sel [7, 6, 5, 4, 3, 2, 1, 0] hl ?_
          repeat refine fst1_ok X (dk rfl) rfl ?_
          refine br_ok X (dk rfl) rfl (show ((53 : Nat) : Int) + 53 = ((106 : Nat) : Int) from rfl) (fun _ => ?_) (fun c1 => absurd (by decide) c1)
          repeat refine fst1_ok X (dk rfl) rfl ?_
          refine br_ok X (dk rfl) rfl (show ((107 : Nat) : Int) + 11 = ((118 : Nat) : Int) from rfl) (fun c6 => ?_) (fun c6 => ?_)
          · repeat refine fst1_ok X (dk rfl) rfl ?_
            exact reti_ok X hr hlk rfl (dk rfl) (refR_ok (M3) (F1.trans (Fr.ext (E1.trans XX))) (by unfold aWeight; dsimp only; rw [if_pos (okI_t hj1 (by decide)), xI_n (by omega), getD_of f1]; rw [if_neg (fun z => (of_decide_eq_true z) c6), ez, er]; first | done | rfl)) (Nat.le_refl _) (Nat.le_refl _)
          · have hA : Ans hh F rows := ⟨rs, h2l.symm, by rw [hFh, ← h1l, filR_end], hrs⟩
            repeat refine fst1_ok X (dk rfl) rfl ?_
            refine callS_ok (av := [.ref F]) (r := []) X E (x_sharedOf hh hA ⟨by omega, hro⟩) lkX10_sharedOf mlX10_199 lsX10_sharedOf ⟨Nat.le_of_ble_eq_true rfl, Nat.le_of_ble_eq_true rfl⟩ ⟨Nat.le_of_ble_eq_true rfl, Nat.le_of_ble_eq_true rfl⟩ (Nat.le_of_ble_eq_true rfl) (dk rfl) ?_
            rintro v h4 ⟨rfl, rfl⟩
            refine br_ok X (dk rfl) rfl (show ((115 : Nat) : Int) + 5 = ((120 : Nat) : Int) from rfl) (fun _ => ?_) (fun q => absurd trivial q)
            exact reti_ok X hr hlk rfl (dk rfl) (refR_ok (M3) (F1.trans (Fr.ext (E1.trans XX))) (by unfold aWeight; dsimp only; rw [if_pos (okI_t hj1 (by decide)), xI_n (by omega), getD_of f1]; rw [if_pos (decide_eq_true c6), er]; first | done | rfl)) (Nat.le_of_ble_eq_true rfl) (Nat.le_of_ble_eq_true rfl)
        | succ d ih =>
          intro i hd hi hh rs rows z l er ez hl XX h1l h2l hFh hrs hro
          have M3 := M2.ext XX
          obtain ⟨c5, z5, i5, i6, i7⟩ := as4 i (by rw [w1.1]; omega)
          have t5 := w1.2 z5 (List.mem_of_getElem? i6)
          have f2 : Value.int (nI i + Int32.ofInt 1) = vI (i + 1) := congrArg Value.int (by rw [nI_1', nI_add])
          have cs : cntN mm (i + 1) = cntN mm i + mm >>> i % 2 := rfl
          have cm := cnt_mono mm (a := i + 1) (b := 8) (by omega)
          refine WS.sel [7, 6, 5, 4, 3, 2, 1, 0] hl ?_
          repeat refine fst1_ok X (dk rfl) rfl ?_
          refine br_ok X (dk rfl) rfl (show ((53 : Nat) : Int) + 53 = ((106 : Nat) : Int) from rfl) (fun c1 => absurd c1 (nI_ge (a := i) (b := 8) (by omega) (by omega))) (fun _ => ?_)
          repeat refine fst1_ok X (dk rfl) rfl ?_
          rw [bit8 (by omega) (by omega)]
          rcases Nat.mod_two_eq_zero_or_one (mm >>> i) with hb0 | hb0
          · have hy1 : y1[i]? = some [i] := by
              have q := hbit i (by omega)
              rw [hb0] at q
              split at q
              · assumption
              · cases q
            rw [hb0]
            rw [hb0, Nat.add_zero] at cs
            refine br_ok X (dk rfl) rfl (show ((62 : Nat) : Int) + 6 = ((68 : Nat) : Int) from rfl) (fun c2 => absurd rfl c2) (fun _ => ?_)
            refine br_ok X (dk rfl) rfl (show ((65 : Nat) : Int) + 35 = ((100 : Nat) : Int) from rfl) (fun _ => ?_) (fun q => absurd trivial q)
            repeat refine fst1_ok X (dk rfl) rfl ?_
            refine br_ok X (dk rfl) rfl (show ((103 : Nat) : Int) + (-54) = ((49 : Nat) : Int) from rfl) (fun _ => ?_) (fun q => absurd trivial q)
            refine WS.sel (l' := [(7, vI (i + 1)), (6, .int z), (5, vI (cntN mm (i + 1))), (4, .ref F), (3, vI mm), (2, .int x2), (1, vI j1), (0, .ref o)]) [7, 6, 5, 4, 3, 2, 1, 0] (by rw [← f2, cs]; rfl) ?_
            exact ih (i + 1) (by omega) (by omega) _ rs rows _ _ (by rw [er]; exact (if_pos hy1).symm) ez rfl XX (by rw [cs]; exact h1l) h2l hFh hrs hro
          · have hy1 : ¬ y1[i]? = some [i] := fun z => by
              have q := hbit i (by omega)
              rw [hb0, if_pos z] at q
              cases q
            have em1 : mvR y1 (i + 1) = mvR y1 i ++ [z5] := by
              have e2 : mvR y1 (i + 1) = mvR y1 i ++ [y1.getD i []] := if_neg hy1
              rw [e2, getD_of i6]
            rw [hb0]
            rw [hb0] at cs
            refine br_ok X (dk rfl) rfl (show ((62 : Nat) : Int) + 6 = ((68 : Nat) : Int) from rfl) (fun _ => ?_) (fun c2 => absurd (by decide) c2)
            repeat refine fst1_ok X (dk rfl) rfl ?_
            refine getf_ok X flX10_16 (dk rfl) M3.obj rfl ?_
            refine fst1_ok X (dk rfl) rfl ?_
            refine lda_ok X (dk rfl) (XX _ _ (E1 _ _ a2)) e1 (by omega) ?_
            refine fst1_ok X (dk rfl) rfl ?_
            refine ldr_ok X (dk rfl) (XX _ _ (E1 _ _ as3)) i5 (by rw [as2, w1.1]; decide) ?_
            have hc5 := XX _ _ (E1 _ _ i7)
            refine str_ok X (dk rfl) hFh hc5 (by rw [filR_len (by omega)]; omega) (by rw [filR_len (by omega)]; omega) ?_
            rw [show (filR rs (cntN mm 8)).set (cntN mm i) (.ref c5) = filR (rs ++ [c5]) (cntN mm 8) by rw [← h1l]; exact filR_set (by omega)]
            have XX2 : Ext h3 (hup hh F (105, filR (rs ++ [c5]) (cntN mm 8))) := XX.set hF _
            have M4 := M2.ext XX2
            have kF : ∀ (u : Nat) (w : List Nat), hh u = some (IA w) → hup hh F (105, filR (rs ++ [c5]) (cntN mm 8)) u = some (IA w) := fun u w hu => by rw [hup_ne _ _ (IA_ne hu hFh)]; exact hu
            repeat refine fst1_ok X (dk rfl) rfl ?_
            refine getf_ok X flX10_16 (dk rfl) M4.obj rfl ?_
            refine fst1_ok X (dk rfl) rfl ?_
            refine lda_ok X (dk rfl) (XX2 _ _ (E1 _ _ a2)) e1 (by omega) ?_
            refine fst1_ok X (dk rfl) rfl ?_
            refine ldr_ok X (dk rfl) (XX2 _ _ (E1 _ _ as3)) i5 (by rw [as2, w1.1]; decide) ?_
            refine alen_ok X (by decide) (dk rfl) (kF _ _ hc5) ?_
            rw [show (z5.map vI).length = z5.length from List.length_map _]
            repeat refine fst1_ok X (dk rfl) rfl ?_
            refine br_ok X (dk rfl) rfl (show ((103 : Nat) : Int) + (-54) = ((49 : Nat) : Int) from rfl) (fun _ => ?_) (fun q => absurd trivial q)
            have f3 : Value.int (nI (cntN mm i) + Int32.ofInt 1) = vI (cntN mm (i + 1)) := congrArg Value.int (by rw [nI_1', nI_add, cs])
            refine WS.sel (l' := [(7, vI (i + 1)), (6, .int (z + nI z5.length)), (5, vI (cntN mm (i + 1))), (4, .ref F), (3, vI mm), (2, .int x2), (1, vI j1), (0, .ref o)]) [7, 6, 5, 4, 3, 2, 1, 0] (by rw [← f2, ← f3]; rfl) ?_
            refine ih (i + 1) (by omega) (by omega) _ (rs ++ [c5]) (rows ++ [z5]) _ _ (by rw [er, em1]) (by rw [ez, nI_add, List.flatten_append, List.length_append]; simp) rfl XX2 (by rw [List.length_append, cs, h1l]; rfl) (by simp [h2l]) (hup_self _ _ _) (fun k u w k1 k2 => ?_) (fun w hw => ?_)
            · rcases Nat.lt_or_ge k rs.length with q | q
              · rw [List.getElem?_append_left q] at k1
                rw [List.getElem?_append_left (by omega)] at k2
                exact kF _ _ (hrs k u w k1 k2)
              · have hk : k = rs.length := by have := (List.getElem?_eq_some_iff.mp k1).1; rw [List.length_append, List.length_singleton] at this; omega
                rw [hk, List.getElem?_concat_length] at k1
                rw [hk, ← h2l, List.getElem?_concat_length] at k2
                cases k1
                cases k2
                exact kF _ _ hc5
            · rcases List.mem_append.mp hw with q | q
              · exact hro w q
              · simp at q; rw [q]; exact t5
      iterate 7 refine fst1_ok X (dk rfl) rfl ?_
      exact loop 8 0 rfl (Nat.zero_le _) _ [] [] _ _ rfl nI_0' rfl (Ext.new hF _) rfl rfl (hup_self _ _ _) (fun k u w k1 => by simp at k1) (fun w hw => by simp at hw)
  iterate 2 refine fst1_ok X (dk rfl) rfl ?_
  refine isAnswer_ok X E mlX10_135 ⟨Nat.le_of_ble_eq_true rfl, Nat.le_of_ble_eq_true rfl⟩ ⟨Nat.le_of_ble_eq_true rfl, Nat.le_of_ble_eq_true rfl⟩ (Nat.le_of_ble_eq_true rfl) (dk rfl) (fun mid1b0 mid1h0 mid1n0 => ?_)
  cases mid1b0 with
  | false =>
    refine br_ok X (dk rfl) rfl (show ((5 : Nat) : Int) + 7 = ((12 : Nat) : Int) from rfl) (fun q => absurd q bI_f) (fun _ => ?_)
    refine fst1_ok X (dk rfl) rfl ?_
    refine br_ok X (dk rfl) rfl (show ((9 : Nat) : Int) + 4 = ((13 : Nat) : Int) from rfl) (fun _ => ?_) (fun q => absurd trivial q)
    exact mid1 true (fun z => by cases z) (fun _ hh => absurd (hh) (mid1n0 rfl))
  | true =>
    refine br_ok X (dk rfl) rfl (show ((5 : Nat) : Int) + 7 = ((12 : Nat) : Int) from rfl) (fun _ => ?_) (fun q => absurd bI_t q)
    refine fst1_ok X (dk rfl) rfl ?_
    exact mid1 false (fun _ => mid1h0 rfl) (fun z => by cases z)
end R21
