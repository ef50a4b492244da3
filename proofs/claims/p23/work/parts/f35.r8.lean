/-! the reference's digest, exactly (printed by wip/q/genR8.py) -/
def RF.DG (o S A : Nat) (sl : List (List Nat)) (an : List (List (List Nat))) (a r kn : Int32) (h : AH) (v : Option Value) (h' : AH) : Prop := v = some (.long (aDigest kn (sl, an, a, r))) ∧ RF.MI o S A sl an a r kn h h'
theorem dgE_eq {sl : List (List Nat)} (kn : Int32) (an : List (List (List Nat))) (da dr : Int32) (z : Int64) {x y : List Nat} (hx : sl.getD 0 [] = x) (hy : sl.getD 1 [] = y) : dgE kn (sl, an, da, dr) z = (((((((z * 31 + (nI (stN x y).1).toInt64) * 31 + (nI (stN x y).2).toInt64) * 31 + da.toInt64) * 31 + dr.toInt64) * 31 + kn.toInt64) * 31 + (nI (szN sl 6)).toInt64) * 31 + (mvN an 3).toInt64) * 31 + 1 := by
  subst hx
  subst hy
  rfl
section R35
variable {la : Launch} {D : va_G} {cA : Nat → ClassId} {B0 pa : Nat} {o S A : Nat} {sl : List (List Nat)} {an : List (List (List Nat))} {da dr kn th : Int32}
set_option maxHeartbeats 4000000 in
theorem RF.x_added (h : AH) (d0 : Int64) {q : Nat} {x : List Nat} (hq : h q = some (IA x)) (hn : x.length < 2 ^ 9) : CT la D cA B0 pa yX10_added cX10_added 9 (some .long) (rmD 1 0 0) [.long d0, .ref q] h (fun w h' => w = some (.long (wlF d0 x)) ∧ h' = h) := by
  refine CT_of (by decide +kernel) (Nat.le_of_ble_eq_true rfl) ?_
  intro p e s m args below meth c X E hr hlk hnm
  have dk : ∀ {pc : Nat} {q : Instr × Nat}, lkd DX10_added pc = some q → decode cX10_added pc = .ok q := lkd_ok DX10_added_ok
  have lx : (x.map vI).length = x.length := List.length_map _
  have loop : ∀ (d i : Nat), d = x.length - i → i ≤ x.length → ∀ (z : Int64) (l : List (Nat × Value)), lsel l [7, 6, 5, 3] = [(7, vI i), (6, vI x.length), (5, .ref q), (3, .long z)] → wlF z (x.drop i) = wlF d0 x → WR p la e (rmD 1 0 0) s m args below meth c D cA B0 9 (fun w h' => w = some (.long (wlF d0 x)) ∧ h' = h) 13 l [] h 0 0 := by
    intro d
    induction d with
    | zero =>
      intro i hd hi z l hl hz
      have hi2 : i = x.length := by omega
      subst hi2
      rw [List.drop_length] at hz
      have hz2 : z = wlF d0 x := hz
      rw [hz2] at hl
      refine WS.sel [7, 6, 5, 3] hl ?_
      repeat refine fst1_ok X (dk rfl) rfl ?_
      refine br_ok X (dk rfl) rfl (show ((17 : Nat) : Int) + 24 = ((41 : Nat) : Int) from rfl) (fun _ => ?_) (fun c1 => absurd (Int32.le_refl _) c1)
      repeat refine fst1_ok X (dk rfl) rfl ?_
      exact retl_ok X hr hlk (dk rfl) ⟨rfl, rfl⟩ (Nat.le_refl _) (Nat.le_refl _)
    | succ d ih =>
      intro i hd hi z l hl hz
      obtain ⟨y, hy⟩ : ∃ y, x[i]? = some y := ⟨x[i]'(by omega), by simp⟩
      rw [wl_drop hy] at hz
      have hz2 : wlF (z * 31 + (nI y).toInt64) (x.drop (i + 1)) = wlF d0 x := hz
      have f2 : Value.int (nI i + Int32.ofInt 1) = vI (i + 1) := congrArg Value.int (by rw [nI_1', nI_add])
      refine WS.sel [7, 6, 5, 3] hl ?_
      repeat refine fst1_ok X (dk rfl) rfl ?_
      refine br_ok X (dk rfl) rfl (show ((17 : Nat) : Int) + 24 = ((41 : Nat) : Int) from rfl) (fun c1 => absurd c1 (nI_ge (by omega) (by omega))) (fun _ => ?_)
      repeat refine fst1_ok X (dk rfl) rfl ?_
      refine ald_ok X (Or.inl ⟨rfl, rfl⟩) (dk rfl) hq (inA_nI (by omega) (IA_get hy)) ?_
      repeat refine fst1_ok X (dk rfl) rfl ?_
      refine callS_ok (av := [.long z, .long (nI y).toInt64]) (r := []) X E (c_add h z (nI y).toInt64) lkX10_add mlX10_226 lsX10_add ⟨Nat.le_of_ble_eq_true rfl, Nat.le_of_ble_eq_true rfl⟩ ⟨Nat.le_of_ble_eq_true rfl, Nat.le_of_ble_eq_true rfl⟩ (Nat.le_of_ble_eq_true rfl) (dk rfl) ?_
      rintro v h' ⟨rfl, rfl⟩
      obtain ⟨w, ew⟩ : ∃ w, z * 31 + (nI y).toInt64 = w := ⟨_, rfl⟩
      rw [ew] at hz2 ⊢
      repeat refine fst1_ok X (dk rfl) rfl ?_
      refine br_ok X (dk rfl) rfl (show ((38 : Nat) : Int) + (-25) = ((13 : Nat) : Int) from rfl) (fun _ => ?_) (fun q => absurd trivial q)
      refine WS.sel (l' := [(7, vI (i + 1)), (6, vI x.length), (5, .ref q), (3, .long w)]) [7, 6, 5, 3] (by rw [← f2]; rfl) ?_
      exact ih (i + 1) (by omega) (by omega) _ _ rfl hz2
  iterate 5 refine fst1_ok X (dk rfl) rfl ?_
  refine alen_ok X (by decide) (dk rfl) hq ?_
  rw [lx]
  iterate 3 refine fst1_ok X (dk rfl) rfl ?_
  exact loop _ 0 rfl (Nat.zero_le _) d0 _ rfl rfl
set_option maxHeartbeats 16000000 in
theorem RF.x_digest (h : AH) (M : MD h o S A sl an da dr kn th) : CT la D cA B0 pa yX10_digest cX10_digest 9 (some .long) (rmD 86 8500 97199) [.ref o] h (DG o S A sl an da dr kn h) := by
  refine CT_of (by decide +kernel) (Nat.le_of_ble_eq_true rfl) ?_
  intro p e s m args below meth c X E hr hlk hnm
  have dk : ∀ {pc : Nat} {q : Instr × Nat}, lkd DX10_digest pc = some q → decode cX10_digest pc = .ok q := lkd_ok DX10_digest_ok
  have addS : ∀ (pc : Nat) (l : List (Nat × Value)) (r : List Value) (hh : AH) (k n : Nat) (d v : Int64), decode cX10_digest pc = .ok (.invokestatic 226, 3) → (r.map fun v => v.category).sum ≤ 8 → k ≤ 8500 → n ≤ 97199 → (WR p la e (rmD 86 8500 97199) s m args below meth c D cA B0 9 (DG o S A sl an da dr kn h) (pc + 3) l (.long (d * 31 + v) :: r) hh k n) → WR p la e (rmD 86 8500 97199) s m args below meth c D cA B0 9 (DG o S A sl an da dr kn h) pc l (.long v :: .long d :: r) hh k n := by
    intro pc l r hh k n d v hd hw hk hn kk
    refine callS_ok (av := [.long d, .long v]) (r := r) X E (c_add hh d v) lkX10_add mlX10_226 lsX10_add ⟨Nat.le_of_ble_eq_true rfl, Nat.le_of_ble_eq_true rfl⟩ ⟨hk, hn⟩ hw hd ?_
    rintro v2 h2 ⟨rfl, rfl⟩
    exact kk
  have tail : ∀ (hh : AH) (th1 : Int32) (l : List (Nat × Value)) (z : Int64), lsel l [1, 0] = [(1, .long z), (0, .ref o)] → dgE kn (sl, an, da, dr) z = aDigest kn (sl, an, da, dr) → MD hh o S A sl an da dr kn th1 → Fr o S A h hh → WR p la e (rmD 86 8500 97199) s m args below meth c D cA B0 9 (DG o S A sl an da dr kn h) 183 l [] hh 30 30 := by
    intro hh th1 l z hl hz M1 F1
    obtain ⟨ss, s1, s2, s3⟩ := M1.slot
    obtain ⟨b1, y1, e1, f1, g1, w1, n1⟩ := s3 0 (by omega)
    obtain ⟨b2, y2, e2, f2, g2, w2, n2⟩ := s3 1 (by omega)
    obtain ⟨G, hG, -, gc, gn, -⟩ := goE ⟨w1, n1⟩ ⟨w2, n2⟩
    have hv := (dgE_eq kn an da dr z (getD_of f1) (getD_of f2)).symm.trans hz
    rw [stN_of hG] at hv
    refine WS.sel [1, 0] hl ?_
    refine new_ok X nc10_157 (dk rfl) (Nat.le_of_ble_eq_true rfl) (Nat.le_of_ble_eq_true rfl) (fun u hu hBu => ?_)
    have XU := Ext.new hu ((11, [Value.null, .int 0, .int 0]) : AC)
    repeat refine fst1_ok X (dk rfl) rfl ?_
    refine getf_ok X flX10_11 (dk rfl) (XU _ _ M1.obj) rfl ?_
    refine fst1_ok X (dk rfl) rfl ?_
    refine ldr_ok X (j := 0) (dk rfl) (XU _ _ s2) e1 (by omega) ?_
    refine fst1_ok X (dk rfl) rfl ?_
    refine getf_ok X flX10_11 (dk rfl) (XU _ _ M1.obj) rfl ?_
    refine fst1_ok X (dk rfl) rfl ?_
    refine ldr_ok X (j := 1) (dk rfl) (XU _ _ s2) e2 (by omega) ?_
    refine callI_ok (av := [.ref b1, .ref b2]) (r := [.ref u]) X E (c_stepsInit _ (hup_self _ _ _) (XU _ _ g1) (XU _ _ g2) ⟨w1, n1⟩ ⟨w2, n2⟩ hG) lkX9_init mlX10_159 lmX9_init rfl ⟨Nat.le_of_ble_eq_true rfl, Nat.le_of_ble_eq_true rfl⟩ ⟨by show 30 + 1 + (1 + G.2.2.2.1) ≤ 8500; omega, by show 30 + 3 + (8 + G.2.2.2.2) ≤ 97199; omega⟩ (Nat.le_of_ble_eq_true rfl) (dk rfl) ?_
    rintro v h2 ⟨rfl, ⟨St, hSt, M2⟩, F2⟩
    have X2 : Ext hh h2 := fun b c e => F2 b c (fun z => by rw [z, hu] at e; cases e) (XU _ _ e)
    refine WS.widen (k' := 8452) (n' := 97151) (by show 30 + 1 + (1 + G.2.2.2.1) ≤ 8452; omega) (by show 30 + 3 + (8 + G.2.2.2.2) ≤ 97151; omega) ?_
    have M3 := M1.ext X2
    repeat refine fst1_ok X (dk rfl) rfl ?_
    refine getfN_ok X E.2.1 fnX10_211 (dk rfl) M2.1 rfl ?_
    refine fst1_ok X (dk rfl) rfl ?_
    refine addS _ _ _ _ _ _ _ _ (dk rfl) (Nat.le_of_ble_eq_true rfl) (by omega) (by omega) ?_
    refine fst1_ok X (dk rfl) rfl ?_
    refine getfN_ok X E.2.1 fnX10_204 (dk rfl) M2.1 rfl ?_
    refine fst1_ok X (dk rfl) rfl ?_
    refine addS _ _ _ _ _ _ _ _ (dk rfl) (Nat.le_of_ble_eq_true rfl) (by omega) (by omega) ?_
    repeat refine fst1_ok X (dk rfl) rfl ?_
    refine getf_ok X flX10_82 (dk rfl) M3.obj rfl ?_
    refine fst1_ok X (dk rfl) rfl ?_
    refine addS _ _ _ _ _ _ _ _ (dk rfl) (Nat.le_of_ble_eq_true rfl) (by omega) (by omega) ?_
    refine fst1_ok X (dk rfl) rfl ?_
    refine getf_ok X flX10_85 (dk rfl) M3.obj rfl ?_
    refine fst1_ok X (dk rfl) rfl ?_
    refine addS _ _ _ _ _ _ _ _ (dk rfl) (Nat.le_of_ble_eq_true rfl) (by omega) (by omega) ?_
    refine fst1_ok X (dk rfl) rfl ?_
    refine getf_ok X flX10_218 (dk rfl) M3.obj rfl ?_
    refine fst1_ok X (dk rfl) rfl ?_
    refine addS _ _ _ _ _ _ _ _ (dk rfl) (Nat.le_of_ble_eq_true rfl) (by omega) (by omega) ?_
    repeat refine fst1_ok X (dk rfl) rfl ?_
    refine callV_ok (ci := 12) (T := TX10) (N := 6) (av := [.int _]) (r := [.long _]) X E (RF.x_told_ h2 M3 (Int32.ofInt 3)) lkX10_told_ mlX10_221 lmX10_told_ lpX10_told_ ⟨Nat.le_of_ble_eq_true rfl, Nat.le_of_ble_eq_true rfl⟩ ⟨Nat.le_of_ble_eq_true rfl, Nat.le_of_ble_eq_true rfl⟩ rfl M3.obj (Nat.le_of_ble_eq_true rfl) (dk rfl) ?_
    rintro v h3 ⟨rfl, M4, F4⟩
    rw [if_pos (show Int32.ofInt 3 = Int32.ofInt 3 from rfl)]
    refine WS.widen (k' := 8476) (n' := 97175) (Nat.le_of_ble_eq_true rfl) (Nat.le_of_ble_eq_true rfl) ?_
    refine fst1_ok X (dk rfl) rfl ?_
    refine addS _ _ _ _ _ _ _ _ (dk rfl) (Nat.le_of_ble_eq_true rfl) (by omega) (by omega) ?_
    iterate 2 refine fst1_ok X (dk rfl) rfl ?_
    refine callV_ok (ci := 12) (T := TX10) (N := 6) (av := [.int _]) (r := [.long _]) X E (RF.x_told_ h3 M4 (Int32.ofInt 4)) lkX10_told_ mlX10_221 lmX10_told_ lpX10_told_ ⟨Nat.le_of_ble_eq_true rfl, Nat.le_of_ble_eq_true rfl⟩ ⟨Nat.le_of_ble_eq_true rfl, Nat.le_of_ble_eq_true rfl⟩ rfl M4.obj (Nat.le_of_ble_eq_true rfl) (dk rfl) ?_
    rintro v h4 ⟨rfl, M5, F5⟩
    rw [if_neg (show ¬ Int32.ofInt 4 = Int32.ofInt 3 by decide)]
    refine WS.widen (k' := 8500) (n' := 97199) (Nat.le_of_ble_eq_true rfl) (Nat.le_of_ble_eq_true rfl) ?_
    refine fst1_ok X (dk rfl) rfl ?_
    refine addS _ _ _ _ _ _ _ _ (dk rfl) (Nat.le_of_ble_eq_true rfl) (by omega) (by omega) ?_
    refine fst1_ok X (dk rfl) rfl ?_
    refine addS _ _ _ _ _ _ _ _ (dk rfl) (Nat.le_of_ble_eq_true rfl) (by omega) (by omega) ?_
    exact retl_ok X hr hlk (dk rfl) ⟨congrArg (fun w => some (Value.long w)) hv, ⟨_, M5⟩, F1.trans ((Fr.ext X2).trans (F4.trans F5))⟩ (Nat.le_of_ble_eq_true rfl) (Nat.le_of_ble_eq_true rfl)
  have loopA : ∀ (d i : Nat), d = 3 - i → i ≤ 3 → ∀ (hh : AH) (th1 : Int32) (l : List (Nat × Value)) (z : Int64), lsel l [5, 4, 3, 1, 0] = [(5, vI i), (4, vI 3), (3, .ref A), (1, .long z), (0, .ref o)] → dgE kn (sl, an, da, dr) (dgA an d i z) = aDigest kn (sl, an, da, dr) → MD hh o S A sl an da dr kn th1 → Fr o S A h hh → WR p la e (rmD 86 8500 97199) s m args below meth c D cA B0 9 (DG o S A sl an da dr kn h) 96 l [] hh (6 + 8 * i) (6 + 8 * i) := by
    intro d
    induction d with
    | zero =>
      intro i hd hi hh th1 l z hl hz M1 F1
      have hi2 : i = 3 := by omega
      subst hi2
      refine WS.sel [5, 4, 3, 1, 0] hl ?_
      repeat refine fst1_ok X (dk rfl) rfl ?_
      refine br_ok X (dk rfl) rfl (show ((100 : Nat) : Int) + 83 = ((183 : Nat) : Int) from rfl) (fun _ => ?_) (fun c1 => absurd (Int32.le_refl _) c1)
      exact tail hh th1 _ z rfl hz M1 F1
    | succ d ih =>
      intro i hd hi hh th1 l z hl hz M1 F1
      obtain ⟨as, a1x, a2, a3⟩ := M1.ans
      obtain ⟨b1, y1, e1, f1, g1, w1, n1⟩ := a3 i (by omega)
      obtain ⟨as1, as2, as3, as4⟩ := g1.row
      have hz2 : dgE kn (sl, an, da, dr) (dgA an d (i + 1) (waG z (an.getD i []))) = aDigest kn (sl, an, da, dr) := hz
      rw [getD_of f1] at hz2
      have hz3 : dgE kn (sl, an, da, dr) (dgA an d (i + 1) (waF y1 8 0 (z * 31 + (nI (movedN y1 8)).toInt64))) = aDigest kn (sl, an, da, dr) := hz2
      have f2 : Value.int (nI i + Int32.ofInt 1) = vI (i + 1) := congrArg Value.int (by rw [nI_1', nI_add])
      refine WS.sel [5, 4, 3, 1, 0] hl ?_
      repeat refine fst1_ok X (dk rfl) rfl ?_
      refine br_ok X (dk rfl) rfl (show ((100 : Nat) : Int) + 83 = ((183 : Nat) : Int) from rfl) (fun c1 => absurd c1 (nI_ge (a := i) (b := 3) (by omega) (by omega))) (fun _ => ?_)
      repeat refine fst1_ok X (dk rfl) rfl ?_
      refine lda_ok X (dk rfl) a2 e1 (by omega) ?_
      repeat refine fst1_ok X (dk rfl) rfl ?_
      refine callS_ok (av := [.ref b1]) (r := []) X E (c_movedBy hh g1 w1) lkX10_movedBy mlX10_141 lsX10_movedBy ⟨Nat.le_of_ble_eq_true rfl, Nat.le_of_ble_eq_true rfl⟩ ⟨by show 6 + 8 * i + 8 ≤ 8500; omega, by show 6 + 8 * i + 8 ≤ 97199; omega⟩ (Nat.le_of_ble_eq_true rfl) (dk rfl) ?_
      rintro v h2 ⟨rfl, E1⟩
      have hm := movedN_lt y1 8
      have hbit := movedN_bit y1 8 (Nat.le_refl _)
      obtain ⟨mm, emm⟩ : ∃ mm, movedN y1 8 = mm := ⟨_, rfl⟩
      rw [emm] at hm hbit hz3 ⊢
      have M2 := M1.ext E1
      have F2 := F1.trans (Fr.ext E1)
      refine WS.widen (k' := 6 + 8 * (i + 1)) (n' := 6 + 8 * (i + 1)) (by show 6 + 8 * i + 8 ≤ 6 + 8 * (i + 1); omega) (by show 6 + 8 * i + 8 ≤ 6 + 8 * (i + 1); omega) ?_
      repeat refine fst1_ok X (dk rfl) rfl ?_
      refine addS _ _ _ _ _ _ _ _ (dk rfl) (Nat.le_of_ble_eq_true rfl) (by omega) (by omega) ?_
      iterate 3 refine fst1_ok X (dk rfl) rfl ?_
      have loopK : ∀ (d8 j : Nat), d8 = 8 - j → j ≤ 8 → ∀ (l : List (Nat × Value)) (z : Int64), lsel l [8, 7, 6, 5, 4, 3, 1, 0] = [(8, vI j), (7, vI mm), (6, .ref b1), (5, vI i), (4, vI 3), (3, .ref A), (1, .long z), (0, .ref o)] → dgE kn (sl, an, da, dr) (dgA an d (i + 1) (waF y1 d8 j z)) = aDigest kn (sl, an, da, dr) → WR p la e (rmD 86 8500 97199) s m args below meth c D cA B0 9 (DG o S A sl an da dr kn h) 127 l [] h2 (6 + 8 * (i + 1)) (6 + 8 * (i + 1)) := by
        intro d8
        induction d8 with
        | zero =>
          intro j hd8 hj l z hl hy
          have hj2 : j = 8 := by omega
          subst hj2
          refine WS.sel [8, 7, 6, 5, 4, 3, 1, 0] hl ?_
          repeat refine fst1_ok X (dk rfl) rfl ?_
          refine br_ok X (dk rfl) rfl (show ((131 : Nat) : Int) + 46 = ((177 : Nat) : Int) from rfl) (fun _ => ?_) (fun c1 => absurd (by decide) c1)
          repeat refine fst1_ok X (dk rfl) rfl ?_
          refine br_ok X (dk rfl) rfl (show ((180 : Nat) : Int) + (-84) = ((96 : Nat) : Int) from rfl) (fun _ => ?_) (fun q => absurd trivial q)
          refine WS.sel (l' := [(5, vI (i + 1)), (4, vI 3), (3, .ref A), (1, .long z), (0, .ref o)]) [5, 4, 3, 1, 0] (by rw [← f2]; rfl) ?_
          exact ih (i + 1) (by omega) (by omega) h2 th1 _ z rfl hy M2 F2
        | succ d8 ih8 =>
          intro j hd8 hj l z hl hy
          obtain ⟨c5, z5, i5, i6, i7⟩ := as4 j (by rw [w1.1]; omega)
          have hy2 : dgE kn (sl, an, da, dr) (dgA an d (i + 1) (waF y1 d8 (j + 1) (if y1[j]? = some [j] then z else wlF ((z * 31 + (nI j).toInt64) * 31 + (nI (y1.getD j []).length).toInt64) (y1.getD j [])))) = aDigest kn (sl, an, da, dr) := hy
          have t5 := w1.2 z5 (List.mem_of_getElem? i6)
          have f3 : Value.int (nI j + Int32.ofInt 1) = vI (j + 1) := congrArg Value.int (by rw [nI_1', nI_add])
          refine WS.sel [8, 7, 6, 5, 4, 3, 1, 0] hl ?_
          repeat refine fst1_ok X (dk rfl) rfl ?_
          refine br_ok X (dk rfl) rfl (show ((131 : Nat) : Int) + 46 = ((177 : Nat) : Int) from rfl) (fun c1 => absurd c1 (nI_ge (a := j) (b := 8) (by omega) (by omega))) (fun _ => ?_)
          have nxt : ∀ (l : List (Nat × Value)) (z : Int64), lsel l [8, 7, 6, 5, 4, 3, 1, 0] = [(8, vI j), (7, vI mm), (6, .ref b1), (5, vI i), (4, vI 3), (3, .ref A), (1, .long z), (0, .ref o)] → dgE kn (sl, an, da, dr) (dgA an d (i + 1) (waF y1 d8 (j + 1) z)) = aDigest kn (sl, an, da, dr) → WR p la e (rmD 86 8500 97199) s m args below meth c D cA B0 9 (DG o S A sl an da dr kn h) 171 l [] h2 (6 + 8 * (i + 1)) (6 + 8 * (i + 1)) := by
            intro l z hl hq
            refine WS.sel [8, 7, 6, 5, 4, 3, 1, 0] hl ?_
            refine fst1_ok X (dk rfl) rfl ?_
            refine br_ok X (dk rfl) rfl (show ((174 : Nat) : Int) + (-47) = ((127 : Nat) : Int) from rfl) (fun _ => ?_) (fun q => absurd trivial q)
            refine WS.sel (l' := [(8, vI (j + 1)), (7, vI mm), (6, .ref b1), (5, vI i), (4, vI 3), (3, .ref A), (1, .long z), (0, .ref o)]) [8, 7, 6, 5, 4, 3, 1, 0] (by rw [← f3]; rfl) ?_
            exact ih8 (j + 1) (by omega) (by omega) _ z rfl hq
          repeat refine fst1_ok X (dk rfl) rfl ?_
          rw [bit8 (by omega) (by omega)]
          rw [hbit j (by omega)]
          by_cases hy1 : y1[j]? = some [j]
          · rw [if_pos hy1] at hy2 ⊢
            exact br_ok X (dk rfl) rfl (show ((142 : Nat) : Int) + 29 = ((171 : Nat) : Int) from rfl) (fun _ => nxt _ z rfl hy2) (fun c => absurd (by decide) c)
          rw [if_neg hy1] at hy2 ⊢
          rw [getD_of i6] at hy2
          refine br_ok X (dk rfl) rfl (show ((142 : Nat) : Int) + 29 = ((171 : Nat) : Int) from rfl) (fun c => absurd (by decide) c) (fun _ => ?_)
          repeat refine fst1_ok X (dk rfl) rfl ?_
          refine addS _ _ _ _ _ _ _ _ (dk rfl) (Nat.le_of_ble_eq_true rfl) (by omega) (by omega) ?_
          repeat refine fst1_ok X (dk rfl) rfl ?_
          refine ldr_ok X (dk rfl) (E1 _ _ as3) i5 (by rw [as2, w1.1]; decide) ?_
          refine alen_ok X (by decide) (dk rfl) (E1 _ _ i7) ?_
          rw [show (z5.map vI).length = z5.length from List.length_map _]
          refine fst1_ok X (dk rfl) rfl ?_
          refine addS _ _ _ _ _ _ _ _ (dk rfl) (Nat.le_of_ble_eq_true rfl) (by omega) (by omega) ?_
          repeat refine fst1_ok X (dk rfl) rfl ?_
          refine ldr_ok X (dk rfl) (E1 _ _ as3) i5 (by rw [as2, w1.1]; decide) ?_
          refine callS_ok (av := [.long _, .ref c5]) (r := []) X E (RF.x_added h2 _ (E1 _ _ i7) (by have := t5.2; omega)) lkX10_added mlX10_232 lsX10_added ⟨Nat.le_of_ble_eq_true rfl, Nat.le_of_ble_eq_true rfl⟩ ⟨by show 6 + 8 * (i + 1) + 0 ≤ 8500; omega, by show 6 + 8 * (i + 1) + 0 ≤ 97199; omega⟩ (Nat.le_of_ble_eq_true rfl) (dk rfl) ?_
          rintro v h3 ⟨rfl, rfl⟩
          refine fst1_ok X (dk rfl) rfl ?_
          exact nxt _ _ rfl hy2
      exact loopK 8 0 rfl (by omega) _ _ rfl hz3
  have loopS : ∀ (d i : Nat), d = 6 - i → i ≤ 6 → ∀ (hh : AH) (th1 : Int32) (l : List (Nat × Value)) (z : Int64), lsel l [5, 4, 3, 1, 0] = [(5, vI i), (4, vI 6), (3, .ref S), (1, .long z), (0, .ref o)] → dgE kn (sl, an, da, dr) (dgA an 3 0 (dgS sl d i z)) = aDigest kn (sl, an, da, dr) → MD hh o S A sl an da dr kn th1 → Fr o S A h hh → WR p la e (rmD 86 8500 97199) s m args below meth c D cA B0 9 (DG o S A sl an da dr kn h) 21 l [] hh i i := by
    intro d
    induction d with
    | zero =>
      intro i hd hi hh th1 l z hl hz M1 F1
      have hi2 : i = 6 := by omega
      subst hi2
      obtain ⟨as, a1x, a2, a3⟩ := M1.ans
      have l3 : (as.map Value.ref).length = 3 := by rw [List.length_map]; exact a1x
      refine WS.sel [5, 4, 3, 1, 0] hl ?_
      repeat refine fst1_ok X (dk rfl) rfl ?_
      refine br_ok X (dk rfl) rfl (show ((25 : Nat) : Int) + 59 = ((84 : Nat) : Int) from rfl) (fun _ => ?_) (fun c1 => absurd (Int32.le_refl _) c1)
      refine fst1_ok X (dk rfl) rfl ?_
      refine getf_ok X flX10_16 (dk rfl) M1.obj rfl ?_
      repeat refine fst1_ok X (dk rfl) rfl ?_
      refine alen_ok X (by decide) (dk rfl) a2 ?_
      rw [l3]
      iterate 3 refine fst1_ok X (dk rfl) rfl ?_
      exact loopA 3 0 rfl (by omega) hh th1 _ z rfl hz M1 F1
    | succ d ih =>
      intro i hd hi hh th1 l z hl hz M1 F1
      obtain ⟨ss, s1, s2, s3⟩ := M1.slot
      obtain ⟨b1, y1, e1, f1, g1, w1, n1⟩ := s3 i (by omega)
      have hz2 : dgE kn (sl, an, da, dr) (dgA an 3 0 (dgS sl d (i + 1) (wsF z (sl.getD i [])))) = aDigest kn (sl, an, da, dr) := hz
      rw [getD_of f1] at hz2
      have f2 : Value.int (nI i + Int32.ofInt 1) = vI (i + 1) := congrArg Value.int (by rw [nI_1', nI_add])
      refine WS.sel [5, 4, 3, 1, 0] hl ?_
      repeat refine fst1_ok X (dk rfl) rfl ?_
      refine br_ok X (dk rfl) rfl (show ((25 : Nat) : Int) + 59 = ((84 : Nat) : Int) from rfl) (fun c1 => absurd c1 (nI_ge (a := i) (b := 6) (by omega) (by omega))) (fun _ => ?_)
      repeat refine fst1_ok X (dk rfl) rfl ?_
      refine ldr_ok X (dk rfl) s2 e1 (by omega) ?_
      repeat refine fst1_ok X (dk rfl) rfl ?_
      refine alen_ok X (by decide) (dk rfl) g1 ?_
      rw [show (y1.map vI).length = y1.length from List.length_map _]
      refine fst1_ok X (dk rfl) rfl ?_
      refine addS _ _ _ _ _ _ _ _ (dk rfl) (Nat.le_of_ble_eq_true rfl) (by omega) (by omega) ?_
      iterate 2 refine fst1_ok X (dk rfl) rfl ?_
      refine callS_ok (av := [.ref b1, vI 0]) (r := [.long _]) X E (RF.x_depthOf hh g1 (by omega) w1.lt 16 0 y1.length (by rw [List.drop_zero]; exact w1.1) (by omega)) lkX10_depthOf mlX10_63 lsX10_depthOf ⟨Nat.le_of_ble_eq_true rfl, Nat.le_of_ble_eq_true rfl⟩ ⟨by show i + 0 ≤ 8500; omega, by show i + 0 ≤ 97199; omega⟩ (Nat.le_of_ble_eq_true rfl) (dk rfl) ?_
      rintro v h2 ⟨rfl, rfl⟩
      refine WS.widen (k' := i) (n' := i) (Nat.le_refl _) (Nat.le_refl _) ?_
      refine fst1_ok X (dk rfl) rfl ?_
      refine addS _ _ _ _ _ _ _ _ (dk rfl) (Nat.le_of_ble_eq_true rfl) (by omega) (by omega) ?_
      refine fst1_ok X (dk rfl) rfl ?_
      refine callS_ok (av := [.ref b1]) (r := [.long _]) X E (RF.x_sharedOf_ h2 g1 ⟨w1, n1⟩) lkX10_sharedOf_ mlX10_202 lsX10_sharedOf_ ⟨Nat.le_of_ble_eq_true rfl, Nat.le_of_ble_eq_true rfl⟩ ⟨by show i + 1 ≤ 8500; omega, by show i + 1 ≤ 97199; omega⟩ (Nat.le_of_ble_eq_true rfl) (dk rfl) ?_
      rintro v h3 ⟨rfl, E3⟩
      have M3 := M1.ext E3
      refine WS.widen (k' := i + 1) (n' := i + 1) (Nat.le_refl _) (Nat.le_refl _) ?_
      refine fst1_ok X (dk rfl) rfl ?_
      refine addS _ _ _ _ _ _ _ _ (dk rfl) (Nat.le_of_ble_eq_true rfl) (by omega) (by omega) ?_
      iterate 3 refine fst1_ok X (dk rfl) rfl ?_
      refine callS_ok (av := [.ref b1]) (r := [.long _]) X E (c_namesOf h3 (E3 _ _ g1) (by omega) w1.lt) lkX10_namesOf mlX10_124 lsX10_namesOf ⟨Nat.le_of_ble_eq_true rfl, Nat.le_of_ble_eq_true rfl⟩ ⟨by show i + 1 + 0 ≤ 8500; omega, by show i + 1 + 0 ≤ 97199; omega⟩ (Nat.le_of_ble_eq_true rfl) (dk rfl) ?_
      rintro v h4 ⟨rfl, rfl⟩
      refine WS.widen (k' := i + 1) (n' := i + 1) (Nat.le_refl _) (Nat.le_refl _) ?_
      refine fst1_ok X (dk rfl) rfl ?_
      refine addS _ _ _ _ _ _ _ _ (dk rfl) (Nat.le_of_ble_eq_true rfl) (by omega) (by omega) ?_
      refine fst1_ok X (dk rfl) rfl ?_
      refine callS_ok (av := [.long _, .ref b1]) (r := []) X E (RF.x_added h4 _ (E3 _ _ g1) (by omega)) lkX10_added mlX10_232 lsX10_added ⟨Nat.le_of_ble_eq_true rfl, Nat.le_of_ble_eq_true rfl⟩ ⟨by show i + 1 + 0 ≤ 8500; omega, by show i + 1 + 0 ≤ 97199; omega⟩ (Nat.le_of_ble_eq_true rfl) (dk rfl) ?_
      rintro v h5 ⟨rfl, rfl⟩
      iterate 2 refine fst1_ok X (dk rfl) rfl ?_
      refine br_ok X (dk rfl) rfl (show ((81 : Nat) : Int) + (-60) = ((21 : Nat) : Int) from rfl) (fun _ => ?_) (fun q => absurd trivial q)
      refine WS.sel (l' := [(5, vI (i + 1)), (4, vI 6), (3, .ref S), (1, .long (wsF z y1)), (0, .ref o)]) [5, 4, 3, 1, 0] (by rw [← f2]; rfl) ?_
      exact ih (i + 1) (by omega) (by omega) h5 th1 _ (wsF z y1) rfl hz2 M3 (F1.trans (Fr.ext E3))
  iterate 2 refine fst1_ok X (dk rfl) rfl ?_
  refine putf_ok X flX10_28 ftX10_5 (Or.inl rfl) rfl rfl (dk rfl) M.obj (Nat.le_of_ble_eq_true rfl) ?_
  have M1 := M.fld da dr kn (Int32.ofInt 0)
  have F1 : Fr o S A h (hup h o (12, [.ref S, .ref A, .int da, .int dr, .int kn, .int (Int32.ofInt 0)])) := (Fr.rf h).set (Or.inl rfl) _
  refine ldc2_ok X cs10_230 (dk rfl) ?_
  obtain ⟨ss, s1, s2, s3⟩ := M1.slot
  have l6 : (ss.map Value.ref).length = 6 := by rw [List.length_map]; exact s1
  iterate 2 refine fst1_ok X (dk rfl) rfl ?_
  refine getf_ok X flX10_11 (dk rfl) M1.obj rfl ?_
  iterate 2 refine fst1_ok X (dk rfl) rfl ?_
  refine alen_ok X (by decide) (dk rfl) s2 ?_
  rw [l6]
  iterate 3 refine fst1_ok X (dk rfl) rfl ?_
  exact loopS 6 0 rfl (by omega) _ _ _ _ rfl rfl M1 F1
end R35
