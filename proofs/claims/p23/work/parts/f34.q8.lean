/-! what digest tells: the class exactly (by hand) -/
def wlF (z : Int64) (x : List Nat) : Int64 := x.foldl (fun z y => z * 31 + (nI y).toInt64) z
def waF (rows : List (List Nat)) : Nat → Nat → Int64 → Int64
  | 0, _, z => z
  | d + 1, j, z => waF rows d (j + 1) (if rows[j]? = some [j] then z else wlF ((z * 31 + (nI j).toInt64) * 31 + (nI (rows.getD j []).length).toInt64) (rows.getD j []))
def waG (z : Int64) (rows : List (List Nat)) : Int64 := waF rows 8 0 (z * 31 + (nI (movedN rows 8)).toInt64)
def wsF (z : Int64) (t : List Nat) : Int64 := wlF ((((z * 31 + (nI t.length).toInt64) * 31 + (nI (lvM t 0 t.length)).toInt64) * 31 + (nI (shN t)).toInt64) * 31 + (nI (namesN t)).toInt64) t
def dgS (sl : List (List Nat)) : Nat → Nat → Int64 → Int64
  | 0, _, z => z
  | d + 1, i, z => dgS sl d (i + 1) (wsF z (sl.getD i []))
def dgA (an : List (List (List Nat))) : Nat → Nat → Int64 → Int64
  | 0, _, z => z
  | d + 1, i, z => dgA an d (i + 1) (waG z (an.getD i []))
def dgH (kn : Int32) (st : ST) : Nat → Nat → Int64 → Int64
  | 0, _, z => z
  | d + 1, i, z => dgH kn st d (i + 1) (z * 31 + (hsN kn i st).toInt64)
def dgE (kn : Int32) (st : ST) (z : Int64) : Int64 := dgH kn st 5 0 ((z * 31 + (nI (stN (st.1.getD 0 []) (st.1.getD 1 [])).1).toInt64) * 31 + (nI (stN (st.1.getD 0 []) (st.1.getD 1 [])).2).toInt64) * 31 + 1
def aDigest (kn : Int32) (st : ST) : Int64 := dgE kn st (dgA st.2.1 3 0 (dgS st.1 6 0 8024))
theorem wl_drop {ns : List Nat} {k y : Nat} (hy : ns[k]? = some y) : ns.drop k = y :: ns.drop (k + 1) := by
  obtain ⟨h, e⟩ := List.getElem?_eq_some_iff.mp hy
  rw [List.drop_eq_getElem_cons h, e]
theorem nI_ngt {i K : Nat} (h : i ≤ K) (hK : K < 2 ^ 31) : ¬ nI K < nI i := Int32.not_lt.mpr ((nI_leI (by omega) hK).mpr h)
theorem StC.at8 {B Q P : Nat → Nat} {ox : Nat} {kn : Int32} {h : AH} {st : ST} (C0 : StC B Q P ox kn h st) : ∃ fs : List Value, h ox = some (8, fs) := by
  obtain ⟨F, C, -, -⟩ := C0
  exact ⟨_, C.2.1⟩
theorem AX_no {res : RS} {st : ST} {v : Int32} {h : AH} (hr : res = ((0, v), st)) : ∀ (E : String) (h' : AH), AX res st h E h' → False := by
  rintro E h' ⟨⟨z, -⟩ | ⟨z, -⟩, -⟩ <;> (rw [hr] at z; first | exact absurd (show (0 : Nat) = 1 from z) (by decide) | exact absurd (show (0 : Nat) = 2 from z) (by decide))
theorem AXh_no {res : RS} {st : ST} {v : Int32} {h : AH} (hr : res = ((0, v), st)) : ∀ (E : String) (h' : AH), AXh res st h E h' → False := by
  rintro E h' ⟨⟨z, -⟩, -⟩
  rw [hr] at z
  exact absurd (show (0 : Nat) = 1 from z) (by decide)
section Q34a
variable {p : Program} {la : Launch} {e : Env} {R : Room} {s : State} {m : MethodId} {args : Array Value} {below : List Frame} {meth : Method} {c : Code} {Q : State → Prop}
variable {D : va_G} {cA : Nat → ClassId} {B0 pa nL : Nat} {cc : ByteArray} {own : String} {pc k n : Nat} {l : List (Nat × Value)} {r : List Value} {h : AH}
/-- a question that throws nothing here -/
theorem askQ_ok (X : CX p s m args c D cA B0 nL cc own) (E : EN D cA B0 pa s) {y : MethodName} {bytes : ByteArray} {maxL idx b : Nat} {ret : Option FieldType} {rm : Room} {av fs : List Value} {BB QQ PP : Nat → Nat} {ox : Nat} {kn : Int32} {res : RS} {st : ST} {v : Int32} {px' : String → AH → Prop}
    (hM : CTX la D cA B0 pa y bytes maxL ret rm (.ref b :: av) h (AP BB QQ PP ox kn res h) px') (er : res = ((0, v), st)) (hpx : ∀ (E' : String) (h' : AH), px' E' h' → False) (hL : LK y bytes maxL av.length ret) (hl : Cond.methodLink own idx y ∈ WT) (hi : Cond.instanceMethod y ∈ WT) (hse : Cond.selects y.cls y y ∈ WT) (hR : rm.frames + 1 ≤ R.frames ∧ 8 + (maxL + 11) + rm.locals ≤ R.locals) (hf : k + rm.cells ≤ R.cells ∧ n + rm.slots ≤ R.slots)
    (hc : RX6 = y.cls) (hb : h b = some (8, fs)) (hW : (r.map fun v => v.category).sum ≤ 8) (hd : decode cc pc = .ok (.invokevirtual idx, 3))
    (kk : ∀ h' : AH, StC BB QQ PP ox kn h' st → FrC h h' → WS p la e R s m args below meth c Q D cA B0 nL (pc + 3) l (.int v :: r) h' (k + rm.cells) (n + rm.slots)) : WS p la e R s m args below meth c Q D cA B0 nL pc l (av.reverse ++ .ref b :: r) h k n := by
  refine callVH_ok (ci := 8) (T := TX6) (N := 14) X E hM hL hl hi hse hR hf (by rw [← hc]; rfl) hb hW hd ?_ (fun E' h' z => (hpx E' h' z).elim)
  rintro w h' ⟨-, rfl, S1, f1⟩
  subst er
  exact kk h' S1 f1
end Q34a
section Q34
variable {la : Launch} {D : va_G} {cA : Nat → ClassId} {B0 pa : Nat} {B Q P : Nat → Nat} {ox : Nat} {kn d r : Int32} {F : Nat → TC}
theorem s0_ofN (h : AH) {o f : Nat} (O : AnO B h o f) {n : Nat} (hn : n < 8) : CT la D cA B0 pa yX0_of cX0_of 2 (some (.object "Branchmatch$Term")) (rmD 1 0 0) [.ref o, vI n] h (RP (.ref (B (f + n))) h) := by
  refine CT_of (by decide +kernel) (Nat.le_of_ble_eq_true rfl) ?_
  intro p e s m args below meth c X E hr hlk hnm
  have dk : ∀ {pc : Nat} {q : Instr × Nat}, lkd DX0_of pc = some q → decode cX0_of pc = .ok q := lkd_ok DX0_of_ok
  obtain ⟨of, arr, o1, o2⟩ := id O
  refine fst1_ok X (dk rfl) rfl ?_
  refine callNR_ok (av := [vI n]) (r := []) X E (c6_isName _ (TygN h) (nI n)) lkX6_isName mnX0_23 lsX6_isName ⟨Nat.le_of_ble_eq_true rfl, Nat.le_of_ble_eq_true rfl⟩ ⟨Nat.le_of_ble_eq_true rfl, Nat.le_of_ble_eq_true rfl⟩ (Nat.le_of_ble_eq_true rfl) (dk rfl) ?_
  rintro _ ⟨b1, rfl, hb2, hn3⟩
  refine br_ok X (dk rfl) rfl (show ((4 : Nat) : Int) + 13 = ((17 : Nat) : Int) from rfl) (fun c4 => ?_) (fun c4 => ?_)
  · refine fst1_ok X (dk rfl) rfl ?_
    refine getf_ok X flX0_11 (dk rfl) o1 rfl ?_
    refine fst1_ok X (dk rfl) rfl ?_
    refine aldr_ok X (Or.inl rfl) (dk rfl) o2 (by omega) (rgB_get B f (k := n) hn) ?_
    exact reta_ok X hr hlk (Or.inl ⟨_, rfl⟩) (Or.inr ⟨_, rfl⟩) (dk rfl) ⟨rfl, rfl⟩ (Nat.le_of_ble_eq_true rfl) (Nat.le_of_ble_eq_true rfl)
  · have c5 : b1 = false := by
      cases b1 with
      | false => rfl
      | true => exact absurd bI_t c4
    exact absurd ⟨n, hn, rfl⟩ (hn3 c5)
set_option maxHeartbeats 8000000 in
theorem s6_withLetters (h : AH) (S : TS B Q h F) (x0 : Int64) {i : Nat} (hi : i < 52) {ns : List Nat} (hN : TN (F i) ns) (ln : ns.length ≤ 16) : CT la D cA B0 pa yX6_withLetters cX6_withLetters 6 (some .long) (rmD 1 0 0) [.long x0, .ref (B i)] h (RP (.long (wlF x0 ns)) h) := by
  refine CT_of (by decide +kernel) (Nat.le_of_ble_eq_true rfl) ?_
  intro p e s m args below meth c X E hr hlk hnm
  have dk : ∀ {pc : Nat} {q : Instr × Nat}, lkd DX6_withLetters pc = some q → decode cX6_withLetters pc = .ok q := lkd_ok DX6_withLetters_ok
  have L5 : ∀ k : Nat, k ≤ ns.length → ∀ z : Int64, wlF z (ns.drop k) = wlF x0 ns → ∀ l : List (Nat × Value), lsel l [5, 3, 2] = [(5, vI k), (3, .long z), (2, .ref (B i))] → WR p la e (rmD 1 0 0) s m args below meth c D cA B0 6 (RP (.long (wlF x0 ns)) h) 5 l [] h 0 0 := by
    refine loopN (fun k hk ih => ?_)
    intro z hz l hl
    refine WS.sel [5, 3, 2] hl ?_
    iterate 2 refine fst1_ok X (dk rfl) rfl ?_
    refine callVR_ok (ci := 7) (T := TX5) (N := 3) (av := []) (r := [_]) X E (s5_length h S hi) lkX5_length mlX6_76 lmX5_length lpX5_length ⟨Nat.le_of_ble_eq_true rfl, Nat.le_of_ble_eq_true rfl⟩ ⟨Nat.le_of_ble_eq_true rfl, Nat.le_of_ble_eq_true rfl⟩ rfl ⟨_, (S i hi).2.1⟩ (Nat.le_of_ble_eq_true rfl) (dk rfl) ?_
    rintro _ rfl
    rw [hN.len]
    by_cases q : k < ns.length
    · refine br_ok X (dk rfl) rfl (show ((11 : Nat) : Int) + 23 = ((34 : Nat) : Int) from rfl) (fun c1 => absurd c1 (nI_ge (a := k) (b := ns.length) (by omega) (by omega))) (fun _ => ?_)
      obtain ⟨y, hy⟩ : ∃ y, ns[k]? = some y := ⟨_, List.getElem?_eq_getElem q⟩
      have ed : wlF z (ns.drop k) = wlF (z * 31 + (nI y).toInt64) (ns.drop (k + 1)) := by rw [wl_drop hy]; rfl
      refine fst1_ok X (dk rfl) rfl ?_
      refine ldc2_ok X csX6_271 (dk rfl) ?_
      iterate 3 refine fst1_ok X (dk rfl) rfl ?_
      refine callVR_ok (ci := 7) (T := TX5) (N := 3) (av := [vI k]) (r := [_]) X E (s5_letterAt h S hi (nI k)) lkX5_letterAt mlX6_132 lmX5_letterAt lpX5_letterAt ⟨Nat.le_of_ble_eq_true rfl, Nat.le_of_ble_eq_true rfl⟩ ⟨Nat.le_of_ble_eq_true rfl, Nat.le_of_ble_eq_true rfl⟩ rfl ⟨_, (S i hi).2.1⟩ (Nat.le_of_ble_eq_true rfl) (dk rfl) ?_
      rintro _ rfl
      rw [hN.lt hy (by omega)]
      iterate 4 refine fst1_ok X (dk rfl) rfl ?_
      refine br_ok X (dk rfl) rfl (show ((31 : Nat) : Int) + (-26) = ((5 : Nat) : Int) from rfl) (fun _ => ?_) (fun q => absurd trivial q)
      exact ih q (z * 31 + (nI y).toInt64) (ed.symm.trans hz) _ (by rw [← vI_succ k]; rfl)
    · obtain rfl : k = ns.length := by omega
      refine br_ok X (dk rfl) rfl (show ((11 : Nat) : Int) + 23 = ((34 : Nat) : Int) from rfl) (fun _ => ?_) (fun c1 => absurd (Int32.le_refl _) c1)
      rw [List.drop_length] at hz
      have hz' : z = wlF x0 ns := hz
      rw [hz']
      refine fst1_ok X (dk rfl) rfl ?_
      exact retl_ok X hr hlk (dk rfl) ⟨rfl, rfl⟩ (Nat.le_of_ble_eq_true rfl) (Nat.le_of_ble_eq_true rfl)
  iterate 4 refine fst1_ok X (dk rfl) rfl ?_
  exact L5 0 (Nat.zero_le _) x0 rfl _ rfl
set_option maxHeartbeats 16000000 in
theorem s6_withAnswer (h : AH) (S : TS B Q h F) (x0 : Int64) {o f : Nat} (O : AnO B h o f) {rows : List (List Nat)} (H : RWX F f rows) (hf : f + 8 ≤ 52) : CT la D cA B0 pa yX6_withAnswer cX6_withAnswer 6 (some .long) (rmD 3 0 0) [.long x0, .ref o] h (RP (.long (waG x0 rows)) h) := by
  refine CT_of (by decide +kernel) (Nat.le_of_ble_eq_true rfl) ?_
  intro p e s m args below meth c X E hr hlk hnm
  have dk : ∀ {pc : Nat} {q : Instr × Nat}, lkd DX6_withAnswer pc = some q → decode cX6_withAnswer pc = .ok q := lkd_ok DX6_withAnswer_ok
  obtain ⟨of, arr, o1, o2⟩ := id O
  have L15 : ∀ j : Nat, j ≤ 8 → ∀ z : Int64, waF rows (8 - j) j z = waG x0 rows → ∀ l : List (Nat × Value), lsel l [5, 3, 2] = [(5, vI j), (3, .long z), (2, .ref o)] → WR p la e (rmD 3 0 0) s m args below meth c D cA B0 6 (RP (.long (waG x0 rows)) h) 15 l [] h 0 0 := by
    refine loopN (fun j hj ih => ?_)
    intro z hz l hl
    refine WS.sel [5, 3, 2] hl ?_
    iterate 2 refine fst1_ok X (dk rfl) rfl ?_
    by_cases q : j < 8
    · obtain ⟨n1, a1, a2, a3, a4⟩ := H.2 j q
      have t1 : TN (F (f + j)) n1 := ⟨by rw [a2], a3.2⟩
      rw [show 8 - j = (8 - (j + 1)) + 1 by omega] at hz
      have hz2 : waF rows (8 - (j + 1)) (j + 1) (if rows[j]? = some [j] then z else wlF ((z * 31 + (nI j).toInt64) * 31 + (nI (rows.getD j []).length).toInt64) (rows.getD j [])) = waG x0 rows := hz
      refine br_ok X (dk rfl) rfl (show ((19 : Nat) : Int) + 56 = ((75 : Nat) : Int) from rfl) (fun c1 => absurd c1 (nI_ge (a := j) (b := 8) (by omega) (by omega))) (fun _ => ?_)
      iterate 2 refine fst1_ok X (dk rfl) rfl ?_
      refine callVR_ok (ci := 2) (T := TX0) (N := 1) (av := [vI j]) (r := []) X E (s0_moves h S O q t1) lkX0_moves mlX6_316 lmX0_moves lpX0_moves ⟨Nat.le_of_ble_eq_true rfl, Nat.le_of_ble_eq_true rfl⟩ ⟨Nat.le_of_ble_eq_true rfl, Nat.le_of_ble_eq_true rfl⟩ rfl ⟨_, o1⟩ (Nat.le_of_ble_eq_true rfl) (dk rfl) ?_
      rintro _ rfl
      by_cases e1 : n1 = [j]
      · rw [if_pos (by rw [a1, e1])] at hz2
        rw [decide_eq_false (fun z => z e1)]
        refine br_ok X (dk rfl) rfl (show ((28 : Nat) : Int) + 41 = ((69 : Nat) : Int) from rfl) (fun _ => ?_) (fun q => absurd bI_f' q)
        refine fst1_ok X (dk rfl) rfl ?_
        refine br_ok X (dk rfl) rfl (show ((72 : Nat) : Int) + (-57) = ((15 : Nat) : Int) from rfl) (fun _ => ?_) (fun q => absurd trivial q)
        exact ih q z hz2 _ (by rw [← vI_succ j]; rfl)
      · rw [if_neg (fun z => e1 (by rw [a1] at z; exact Option.some.inj z)), getD_of a1] at hz2
        rw [decide_eq_true e1]
        refine br_ok X (dk rfl) rfl (show ((28 : Nat) : Int) + 41 = ((69 : Nat) : Int) from rfl) (fun q => absurd q bI_t) (fun _ => ?_)
        refine fst1_ok X (dk rfl) rfl ?_
        refine ldc2_ok X csX6_271 (dk rfl) ?_
        iterate 6 refine fst1_ok X (dk rfl) rfl ?_
        refine ldc2_ok X csX6_271 (dk rfl) ?_
        iterate 3 refine fst1_ok X (dk rfl) rfl ?_
        refine callVR_ok (ci := 2) (T := TX0) (N := 1) (av := [vI j]) (r := [_]) X E (s0_ofN h O q) lkX0_of mlX6_169 lmX0_of lpX0_of ⟨Nat.le_of_ble_eq_true rfl, Nat.le_of_ble_eq_true rfl⟩ ⟨Nat.le_of_ble_eq_true rfl, Nat.le_of_ble_eq_true rfl⟩ rfl ⟨_, o1⟩ (Nat.le_of_ble_eq_true rfl) (dk rfl) ?_
        rintro _ rfl
        refine callVR_ok (ci := 7) (T := TX5) (N := 3) (av := []) (r := [_]) X E (s5_length h S (i := f + j) (by omega)) lkX5_length mlX6_76 lmX5_length lpX5_length ⟨Nat.le_of_ble_eq_true rfl, Nat.le_of_ble_eq_true rfl⟩ ⟨Nat.le_of_ble_eq_true rfl, Nat.le_of_ble_eq_true rfl⟩ rfl ⟨_, (S (f + j) (by omega)).2.1⟩ (Nat.le_of_ble_eq_true rfl) (dk rfl) ?_
        rintro _ rfl
        rw [t1.len]
        iterate 6 refine fst1_ok X (dk rfl) rfl ?_
        refine callVR_ok (ci := 2) (T := TX0) (N := 1) (av := [vI j]) (r := [_]) X E (s0_ofN h O q) lkX0_of mlX6_169 lmX0_of lpX0_of ⟨Nat.le_of_ble_eq_true rfl, Nat.le_of_ble_eq_true rfl⟩ ⟨Nat.le_of_ble_eq_true rfl, Nat.le_of_ble_eq_true rfl⟩ rfl ⟨_, o1⟩ (Nat.le_of_ble_eq_true rfl) (dk rfl) ?_
        rintro _ rfl
        refine callSR_ok (av := [.long ((z * 31 + (nI j).toInt64) * 31 + (nI n1.length).toInt64), .ref (B (f + j))]) (r := []) X E (s6_withLetters h S _ (i := f + j) (by omega) t1 a4) lkX6_withLetters mlX6_285 lsX6_withLetters ⟨Nat.le_of_ble_eq_true rfl, Nat.le_of_ble_eq_true rfl⟩ ⟨Nat.le_of_ble_eq_true rfl, Nat.le_of_ble_eq_true rfl⟩ (Nat.le_of_ble_eq_true rfl) (dk rfl) ?_
        rintro _ rfl
        iterate 2 refine fst1_ok X (dk rfl) rfl ?_
        refine br_ok X (dk rfl) rfl (show ((72 : Nat) : Int) + (-57) = ((15 : Nat) : Int) from rfl) (fun _ => ?_) (fun q => absurd trivial q)
        exact ih q _ hz2 _ (by rw [← vI_succ j]; rfl)
    · obtain rfl : j = 8 := by omega
      have hz' : z = waG x0 rows := hz
      rw [hz']
      refine br_ok X (dk rfl) rfl (show ((19 : Nat) : Int) + 56 = ((75 : Nat) : Int) from rfl) (fun _ => ?_) (fun c1 => absurd (by decide) c1)
      refine fst1_ok X (dk rfl) rfl ?_
      exact retl_ok X hr hlk (dk rfl) ⟨rfl, rfl⟩ (Nat.le_of_ble_eq_true rfl) (Nat.le_of_ble_eq_true rfl)
  refine fst1_ok X (dk rfl) rfl ?_
  refine ldc2_ok X csX6_271 (dk rfl) ?_
  iterate 2 refine fst1_ok X (dk rfl) rfl ?_
  refine callVR_ok (ci := 2) (T := TX0) (N := 1) (av := []) (r := [_]) X E (s0_movedNames h S O H) lkX0_movedNames mlX6_219 lmX0_movedNames lpX0_movedNames ⟨Nat.le_of_ble_eq_true rfl, Nat.le_of_ble_eq_true rfl⟩ ⟨Nat.le_of_ble_eq_true rfl, Nat.le_of_ble_eq_true rfl⟩ rfl ⟨_, o1⟩ (Nat.le_of_ble_eq_true rfl) (dk rfl) ?_
  rintro _ rfl
  iterate 5 refine fst1_ok X (dk rfl) rfl ?_
  exact L15 0 (by omega) (x0 * 31 + (nI (movedN rows 8)).toInt64) rfl _ rfl
def DGP (B Q P : Nat → Nat) (ox : Nat) (kn : Int32) (st : ST) (h : AH) (v : Option Value) (h' : AH) : Prop := v = some (.long (aDigest kn st)) ∧ StC B Q P ox kn h' st ∧ FrC h h'
set_option maxHeartbeats 64000000 in
theorem s6_digest (h : AH) (hla : la.stackTraces = false) (Y : LYO B Q) {st : ST} (C0 : StC B Q P ox kn h st) : CT la D cA B0 pa yX6_digest cX6_digest 4 (some .long) (rmD 9 40 240) [.ref ox] h (DGP B Q P ox kn st h) := by
  refine CT_of (by decide +kernel) (Nat.le_of_ble_eq_true rfl) ?_
  intro p e s m args below meth c X E hr hlk hnm
  have dk : ∀ {pc : Nat} {q : Instr × Nat}, lkd DX6_digest pc = some q → decode cX6_digest pc = .ok q := lkd_ok DX6_digest_ok
  have L135 : ∀ j : Nat, j ≤ 5 → ∀ (z : Int64) (h2 : AH), dgH kn st (5 - j) j z * 31 + 1 = aDigest kn st → StC B Q P ox kn h2 st → FrC h h2 → ∀ l : List (Nat × Value), lsel l [3, 1, 0] = [(3, vI j), (1, .long z), (0, .ref ox)] → WR p la e (rmD 9 40 240) s m args below meth c D cA B0 4 (DGP B Q P ox kn st h) 135 l [] h2 (28 + j) (168 + 6 * j) := by
    refine loopN (fun j hj ih => ?_)
    intro z h2 hz C2 f2 l hl
    refine WS.sel [3, 1, 0] hl ?_
    iterate 2 refine fst1_ok X (dk rfl) rfl ?_
    by_cases q : j < 5
    · rw [show 5 - j = (5 - (j + 1)) + 1 by omega] at hz
      refine br_ok X (dk rfl) rfl (show ((137 : Nat) : Int) + 22 = ((159 : Nat) : Int) from rfl) (fun c1 => absurd c1 (nI_ngt (i := j) (K := 4) (by omega) (by omega))) (fun _ => ?_)
      refine fst1_ok X (dk rfl) rfl ?_
      refine ldc2_ok X csX6_271 (dk rfl) ?_
      iterate 3 refine fst1_ok X (dk rfl) rfl ?_
      have ea : aHouse kn (nI j) st = ((0, hsN kn j st), st) := by
        unfold aHouse
        rw [if_pos (okI_t q (by decide)), xI_n (by omega)]
      refine askQ_ok (av := [vI j]) (r := [_]) X E (s6_house h2 hla Y C2 (nI j)) ea (AXh_no ea) lkX6_house mlX6_300 lmX6_house lpX6_house ⟨Nat.le_of_ble_eq_true rfl, Nat.le_of_ble_eq_true rfl⟩ ⟨by show 28 + j + 1 ≤ 40; omega, by show 168 + 6 * j + 6 ≤ 240; omega⟩ rfl C2.at8.choose_spec (Nat.le_of_ble_eq_true rfl) (dk rfl) (fun h3 C3 f3 => ?_)
      iterate 4 refine fst1_ok X (dk rfl) rfl ?_
      refine br_ok X (dk rfl) rfl (show ((156 : Nat) : Int) + (-21) = ((135 : Nat) : Int) from rfl) (fun _ => ?_) (fun q => absurd trivial q)
      refine WS.widen (k' := 28 + (j + 1)) (n' := 168 + 6 * (j + 1)) (by show 28 + j + 1 ≤ _; omega) (by show 168 + 6 * j + 6 ≤ _; omega) ?_
      exact ih q (z * 31 + (hsN kn j st).toInt64) h3 hz C3 (f2.trans f3) _ (by rw [← vI_succ j]; rfl)
    · obtain rfl : j = 5 := by omega
      refine br_ok X (dk rfl) rfl (show ((137 : Nat) : Int) + 22 = ((159 : Nat) : Int) from rfl) (fun _ => ?_) (fun c1 => absurd (by decide) c1)
      refine fst1_ok X (dk rfl) rfl ?_
      refine ldc2_ok X csX6_271 (dk rfl) ?_
      iterate 2 refine fst1_ok X (dk rfl) rfl ?_
      refine callV_ok (ci := 8) (T := TX6) (N := 14) (av := []) (r := [_]) X E (s6_isSound h2 Y C2) lkX6_isSound mlX6_303 lmX6_isSound lpX6_isSound ⟨Nat.le_of_ble_eq_true rfl, Nat.le_of_ble_eq_true rfl⟩ ⟨Nat.le_of_ble_eq_true rfl, Nat.le_of_ble_eq_true rfl⟩ rfl C2.at8.choose_spec (Nat.le_of_ble_eq_true rfl) (dk rfl) ?_
      rintro _ h3 ⟨rfl, C3, f3⟩
      refine br_ok X (dk rfl) rfl (show ((168 : Nat) : Int) + 7 = ((175 : Nat) : Int) from rfl) (fun q => absurd q bI_t) (fun _ => ?_)
      refine fst1_ok X (dk rfl) rfl ?_
      refine br_ok X (dk rfl) rfl (show ((172 : Nat) : Int) + 4 = ((176 : Nat) : Int) from rfl) (fun _ => ?_) (fun q => absurd trivial q)
      iterate 2 refine fst1_ok X (dk rfl) rfl ?_
      exact retl_ok X hr hlk (dk rfl) ⟨congrArg (fun w => some (Value.long w)) ((show z * 31 + (Int32.ofInt 1).toInt64 = z * 31 + 1 by rw [show (Int32.ofInt 1).toInt64 = 1 by decide +kernel]).trans hz), C3, f2.trans f3⟩ (Nat.le_of_ble_eq_true rfl) (Nat.le_of_ble_eq_true rfl)
  have L83 : ∀ j : Nat, j ≤ 3 → ∀ (z : Int64) (h2 : AH), dgE kn st (dgA st.2.1 (3 - j) j z) = aDigest kn st → StC B Q P ox kn h2 st → FrC h h2 → ∀ l : List (Nat × Value), lsel l [3, 1, 0] = [(3, vI j), (1, .long z), (0, .ref ox)] → WR p la e (rmD 9 40 240) s m args below meth c D cA B0 4 (DGP B Q P ox kn st h) 83 l [] h2 24 144 := by
    refine loopN (fun j hj ih => ?_)
    intro z h2 hz C2 f2 l hl
    refine WS.sel [3, 1, 0] hl ?_
    iterate 2 refine fst1_ok X (dk rfl) rfl ?_
    obtain ⟨F2, D2, H2, -⟩ := id C2
    by_cases q : j < 3
    · rw [show 3 - j = (3 - (j + 1)) + 1 by omega] at hz
      obtain ⟨rows, sk, rk⟩ := H2.2 j q
      have hz2 : dgE kn st (dgA st.2.1 (3 - (j + 1)) (j + 1) (waG z (st.2.1.getD j []))) = aDigest kn st := hz
      rw [getD_of sk] at hz2
      refine br_ok X (dk rfl) rfl (show ((85 : Nat) : Int) + 20 = ((105 : Nat) : Int) from rfl) (fun c1 => absurd c1 (nI_ge (a := j) (b := 3) (by omega) (by omega))) (fun _ => ?_)
      iterate 2 refine fst1_ok X (dk rfl) rfl ?_
      refine getf_ok X flX6_17 (dk rfl) D2.2.1 rfl ?_
      refine fst1_ok X (dk rfl) rfl ?_
      refine aldr_ok X (Or.inr rfl) (dk rfl) D2.2.2.1.2.1 (by omega) (rgB_get P 7 (n := 3) (k := j) q) ?_
      refine callSR_ok (av := [.long z, .ref (P (7 + j))]) (r := []) X E (s6_withAnswer h2 D2.1 z (D2.2.2.1.2.2.1 j q) rk (by omega)) lkX6_withAnswer mlX6_289 lsX6_withAnswer ⟨Nat.le_of_ble_eq_true rfl, Nat.le_of_ble_eq_true rfl⟩ ⟨Nat.le_of_ble_eq_true rfl, Nat.le_of_ble_eq_true rfl⟩ (Nat.le_of_ble_eq_true rfl) (dk rfl) ?_
      rintro _ rfl
      iterate 2 refine fst1_ok X (dk rfl) rfl ?_
      refine br_ok X (dk rfl) rfl (show ((102 : Nat) : Int) + (-19) = ((83 : Nat) : Int) from rfl) (fun _ => ?_) (fun q => absurd trivial q)
      exact ih q _ h2 hz2 C2 f2 _ (by rw [← vI_succ j]; rfl)
    · obtain rfl : j = 3 := by omega
      refine br_ok X (dk rfl) rfl (show ((85 : Nat) : Int) + 20 = ((105 : Nat) : Int) from rfl) (fun _ => ?_) (fun c1 => absurd (by decide) c1)
      refine fst1_ok X (dk rfl) rfl ?_
      refine ldc2_ok X csX6_271 (dk rfl) ?_
      iterate 4 refine fst1_ok X (dk rfl) rfl ?_
      have e1 : aSteps (nI 0) (nI 1) st = ((0, nI (stN (st.1.getD 0 []) (st.1.getD 1 [])).1), st) := by
        unfold aSteps
        rw [if_pos (okI_t (j := 0) (by decide) (by decide)), if_pos (okI_t (j := 1) (by decide) (by decide)), xI_n (by omega), xI_n (by omega)]
      have e2 : aWhy (nI 0) (nI 1) st = ((0, nI (stN (st.1.getD 0 []) (st.1.getD 1 [])).2), st) := by
        unfold aWhy
        rw [if_pos (okI_t (j := 0) (by decide) (by decide)), if_pos (okI_t (j := 1) (by decide) (by decide)), xI_n (by omega), xI_n (by omega)]
      refine askQ_ok (av := [vI 0, vI 1]) (r := [_]) X E (s6_steps h2 hla Y C2 (nI 0) (nI 1)) e1 (AX_no e1) lkX6_steps mlX6_293 lmX6_steps lpX6_steps ⟨Nat.le_of_ble_eq_true rfl, Nat.le_of_ble_eq_true rfl⟩ ⟨Nat.le_of_ble_eq_true rfl, Nat.le_of_ble_eq_true rfl⟩ rfl C2.at8.choose_spec (Nat.le_of_ble_eq_true rfl) (dk rfl) (fun h3 C3 f3 => ?_)
      iterate 4 refine fst1_ok X (dk rfl) rfl ?_
      refine ldc2_ok X csX6_271 (dk rfl) ?_
      iterate 4 refine fst1_ok X (dk rfl) rfl ?_
      refine askQ_ok (av := [vI 0, vI 1]) (r := [_]) X E (s6_why h3 hla Y C3 (nI 0) (nI 1)) e2 (AX_no e2) lkX6_why mlX6_297 lmX6_why lpX6_why ⟨Nat.le_of_ble_eq_true rfl, Nat.le_of_ble_eq_true rfl⟩ ⟨Nat.le_of_ble_eq_true rfl, Nat.le_of_ble_eq_true rfl⟩ rfl C3.at8.choose_spec (Nat.le_of_ble_eq_true rfl) (dk rfl) (fun h4 C4 f4 => ?_)
      iterate 5 refine fst1_ok X (dk rfl) rfl ?_
      exact L135 0 (by omega) ((z * 31 + (nI (stN (st.1.getD 0 []) (st.1.getD 1 [])).1).toInt64) * 31 + (nI (stN (st.1.getD 0 []) (st.1.getD 1 [])).2).toInt64) h4 hz C4 ((f2.trans f3).trans f4) _ rfl
  have L6 : ∀ j : Nat, j ≤ 6 → ∀ (z : Int64) (h2 : AH), dgE kn st (dgA st.2.1 3 0 (dgS st.1 (6 - j) j z)) = aDigest kn st → StC B Q P ox kn h2 st → FrC h h2 → ∀ l : List (Nat × Value), lsel l [3, 1, 0] = [(3, vI j), (1, .long z), (0, .ref ox)] → WR p la e (rmD 9 40 240) s m args below meth c D cA B0 4 (DGP B Q P ox kn st h) 6 l [] h2 (4 * j) (24 * j) := by
    refine loopN (fun j hj ih => ?_)
    intro z h2 hz C2 f2 l hl
    refine WS.sel [3, 1, 0] hl ?_
    iterate 2 refine fst1_ok X (dk rfl) rfl ?_
    by_cases q : j < 6
    · rw [show 6 - j = (6 - (j + 1)) + 1 by omega] at hz
      obtain ⟨F2, D2, H2, O⟩ := id C2
      obtain ⟨nj, sj, -, -, -, -⟩ := H2.slot O q
      have hz2 : dgE kn st (dgA st.2.1 3 0 (dgS st.1 (6 - (j + 1)) (j + 1) (wsF z (st.1.getD j [])))) = aDigest kn st := hz
      rw [getD_of sj] at hz2
      refine br_ok X (dk rfl) rfl (show ((9 : Nat) : Int) + 72 = ((81 : Nat) : Int) from rfl) (fun c1 => absurd c1 (nI_ge (a := j) (b := 6) (by omega) (by omega))) (fun _ => ?_)
      have e1 : aSize (nI j) st = ((0, nI nj.length), st) := by
        unfold aSize
        rw [if_pos (okI_t q (by decide)), xI_n (by omega), getD_of sj]
      have e2 : aDepth (nI j) st = ((0, nI (lvM nj 0 nj.length)), st) := by
        unfold aDepth
        rw [if_pos (okI_t q (by decide)), xI_n (by omega), getD_of sj]
      have e3 : aShared (nI j) st = ((0, nI (shN nj)), st) := by
        unfold aShared
        rw [if_pos (okI_t q (by decide)), xI_n (by omega), getD_of sj]
      have e4 : aNames (nI j) st = ((0, nI (namesN nj)), st) := by
        unfold aNames
        rw [if_pos (okI_t q (by decide)), xI_n (by omega), getD_of sj]
      refine fst1_ok X (dk rfl) rfl ?_
      refine ldc2_ok X csX6_271 (dk rfl) ?_
      iterate 3 refine fst1_ok X (dk rfl) rfl ?_
      refine askQ_ok (av := [vI j]) (r := [_]) X E (s6_size h2 hla Y C2 (nI j)) e1 (AX_no e1) lkX6_size mlX6_273 lmX6_size lpX6_size ⟨Nat.le_of_ble_eq_true rfl, Nat.le_of_ble_eq_true rfl⟩ ⟨by show 4 * j + 1 ≤ 40; omega, by show 24 * j + 6 ≤ 240; omega⟩ rfl C2.at8.choose_spec (Nat.le_of_ble_eq_true rfl) (dk rfl) (fun h3 C3 f3 => ?_)
      iterate 4 refine fst1_ok X (dk rfl) rfl ?_
      refine ldc2_ok X csX6_271 (dk rfl) ?_
      iterate 3 refine fst1_ok X (dk rfl) rfl ?_
      refine askQ_ok (av := [vI j]) (r := [_]) X E (s6_depth h3 hla Y C3 (nI j)) e2 (AX_no e2) lkX6_depth mlX6_276 lmX6_depth lpX6_depth ⟨Nat.le_of_ble_eq_true rfl, Nat.le_of_ble_eq_true rfl⟩ ⟨by show 4 * j + 1 + 1 ≤ 40; omega, by show 24 * j + 6 + 6 ≤ 240; omega⟩ rfl C3.at8.choose_spec (Nat.le_of_ble_eq_true rfl) (dk rfl) (fun h4 C4 f4 => ?_)
      iterate 4 refine fst1_ok X (dk rfl) rfl ?_
      refine ldc2_ok X csX6_271 (dk rfl) ?_
      iterate 3 refine fst1_ok X (dk rfl) rfl ?_
      refine askQ_ok (av := [vI j]) (r := [_]) X E (s6_shared h4 hla Y C4 (nI j)) e3 (AX_no e3) lkX6_shared mlX6_279 lmX6_shared lpX6_shared ⟨Nat.le_of_ble_eq_true rfl, Nat.le_of_ble_eq_true rfl⟩ ⟨by show 4 * j + 1 + 1 + 1 ≤ 40; omega, by show 24 * j + 6 + 6 + 6 ≤ 240; omega⟩ rfl C4.at8.choose_spec (Nat.le_of_ble_eq_true rfl) (dk rfl) (fun h5 C5 f5 => ?_)
      iterate 4 refine fst1_ok X (dk rfl) rfl ?_
      refine ldc2_ok X csX6_271 (dk rfl) ?_
      iterate 3 refine fst1_ok X (dk rfl) rfl ?_
      refine askQ_ok (av := [vI j]) (r := [_]) X E (s6_names h5 hla Y C5 (nI j)) e4 (AX_no e4) lkX6_names mlX6_282 lmX6_names lpX6_names ⟨Nat.le_of_ble_eq_true rfl, Nat.le_of_ble_eq_true rfl⟩ ⟨by show 4 * j + 1 + 1 + 1 + 1 ≤ 40; omega, by show 24 * j + 6 + 6 + 6 + 6 ≤ 240; omega⟩ rfl C5.at8.choose_spec (Nat.le_of_ble_eq_true rfl) (dk rfl) (fun h6 C6 f6 => ?_)
      obtain ⟨F6, D6, H6, O6⟩ := id C6
      obtain ⟨nk, sk, -, tk, -, lk⟩ := H6.slot O6 q
      obtain rfl : nk = nj := Option.some.inj (sk.symm.trans sj)
      iterate 5 refine fst1_ok X (dk rfl) rfl ?_
      refine getf_ok X flX6_11 (dk rfl) D6.2.1 rfl ?_
      refine fst1_ok X (dk rfl) rfl ?_
      refine aldr_ok X (Or.inl rfl) (dk rfl) D6.2.2.1.1 (by omega) (rgB_get B 0 (n := 6) (k := j) q) ?_
      rw [Nat.zero_add]
      refine callSR_ok (av := [.long _, .ref (B j)]) (r := []) X E (s6_withLetters h6 D6.1 _ (i := j) (by omega) tk lk) lkX6_withLetters mlX6_285 lsX6_withLetters ⟨Nat.le_of_ble_eq_true rfl, Nat.le_of_ble_eq_true rfl⟩ ⟨by show 4 * j + 1 + 1 + 1 + 1 ≤ 40; omega, by show 24 * j + 6 + 6 + 6 + 6 ≤ 240; omega⟩ (Nat.le_of_ble_eq_true rfl) (dk rfl) ?_
      rintro _ rfl
      iterate 2 refine fst1_ok X (dk rfl) rfl ?_
      refine br_ok X (dk rfl) rfl (show ((78 : Nat) : Int) + (-72) = ((6 : Nat) : Int) from rfl) (fun _ => ?_) (fun q => absurd trivial q)
      refine WS.widen (k' := 4 * (j + 1)) (n' := 24 * (j + 1)) (by show 4 * j + 1 + 1 + 1 + 1 ≤ _; omega) (by show 24 * j + 6 + 6 + 6 + 6 ≤ _; omega) ?_
      exact ih q _ h6 hz2 C6 ((((f2.trans f3).trans f4).trans f5).trans f6) _ (by rw [← vI_succ j]; rfl)
    · obtain rfl : j = 6 := by omega
      refine br_ok X (dk rfl) rfl (show ((9 : Nat) : Int) + 72 = ((81 : Nat) : Int) from rfl) (fun _ => ?_) (fun c1 => absurd (by decide) c1)
      iterate 2 refine fst1_ok X (dk rfl) rfl ?_
      exact L83 0 (by omega) z h2 hz C2 f2 _ rfl
  refine ldc2_ok X csX6_269 (dk rfl) ?_
  iterate 3 refine fst1_ok X (dk rfl) rfl ?_
  exact L6 0 (by omega) 8024 h rfl C0 (FrC.rf h) _ rfl
end Q34
