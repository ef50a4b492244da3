/-! the law's small methods, strongly: what is thrown is caught (printed by wip/rows/genG3.py) -/
theorem StC.cell {B Q P : Nat → Nat} {ox : Nat} {kn : Int32} {h : AH} {st : ST} (C0 : StC B Q P ox kn h st) : ∃ fs : List Value, fs.length = 14 ∧ h ox = some (8, fs) := by
  obtain ⟨F, C, -, -⟩ := C0
  exact ⟨_, rfl, C.2.1⟩
/-- a cell of the law's box is written -/
theorem StC.out9 {B Q P : Nat → Nat} {ox : Nat} {kn : Int32} {h : AH} {st : ST} (C0 : StC B Q P ox kn h st) {a : Nat} {us : List Value} (x' : h a = some (9, us)) (c : AC) : StC B Q P ox kn (hup h a c) st := by
  obtain ⟨F, ⟨S, x, ⟨c1, c2, c3, c4, c5⟩, ⟨t, e, r1⟩, r2, r3, r4, r5⟩, H, O⟩ := C0
  have kp : ∀ {b k : Nat} {vs : List Value}, h b = some (k, vs) → k ≠ 9 → hup h a c b = some (k, vs) := fun {b k vs} eb hk => by rw [hup_ne _ _ (k_ne eb x' hk)]; exact eb
  have hx : h ox = some (8, (OXc B P st.2.2.1 st.2.2.2 kn).2) := x
  refine ⟨F, ⟨S.out x' (by decide) (by decide) _, kp hx (by decide), ⟨kp c1 (by decide), kp c2 (by decide), fun k hk => (c3 k hk).out x' (by decide) (by decide) _, c4.out x' (by decide) (by decide) _, c5.out x' (by decide) (by decide) _⟩, ⟨t, e, kp r1 (by decide)⟩, kp r2 (by decide), kp r3 (by decide), fun k hk => ?_, fun j h1 h2 => ?_⟩, H, O⟩
  · obtain ⟨w, w1, w2⟩ := r4 k hk
    exact ⟨w, w1, kp w2 (by decide)⟩
  · obtain ⟨xs, e1, e2⟩ := r5 j h1 h2
    exact ⟨xs, kp e1 (by decide), e2⟩
/-- the box is there; all but it and the class's own stays -/
def LwK (oo : Nat) (h h' : AH) : Prop := (∃ v w : Value, h' oo = some (9, [v, w])) ∧ ∀ (a : Nat) (c : AC), a ≠ oo → h a = some c → ck c.1 = false → h' a = some c
theorem LwK.of {oo : Nat} {h h1 : AH} (f : FrC h h1) {v w : Value} (ho : h oo = some (9, [v, w])) : LwK oo h h1 := ⟨⟨v, w, f _ _ ho rfl⟩, fun a c _ e q => f a c e q⟩
theorem LwK.put {oo : Nat} {h h1 : AH} (f : FrC h h1) (v w : Value) : LwK oo h (hup h1 oo (9, [v, w])) := ⟨⟨v, w, hup_self _ _ _⟩, fun a c ne e q => by rw [hup_ne _ _ ne]; exact f a c e q⟩
def LwS (B Q P : Nat → Nat) (ox : Nat) (kn : Int32) (oo : Nat) (res : RS) (h : AH) (v : Option Value) (h' : AH) : Prop := v = some (.int (nI res.1.1)) ∧ StC B Q P ox kn h' res.2 ∧ LwK oo h h' ∧ (res.1.1 = 0 → ∃ w : Value, h' oo = some (9, [.long res.1.2.toInt64, w])) ∧ res.1.1 ≤ 2
def LwQ (B Q P : Nat → Nat) (ox : Nat) (kn : Int32) (oo : Nat) (st : ST) (h : AH) (v : Option Value) (h' : AH) : Prop := (∃ x : Int32, v = some (.int x)) ∧ StC B Q P ox kn h' st ∧ LwK oo h h'
section LwL
variable {B Q P : Nat → Nat} {ox oo : Nat} {kn : Int32} {res : RS} {st : ST} {h h1 : AH} {v w : Value} {x : Int32}
theorem LwS.put (hz : res.1.1 = 0) (S1 : StC B Q P ox kn h1 res.2) (f : FrC h h1) (ho : h oo = some (9, [v, w])) (hx : x = nI 0) : LwS B Q P ox kn oo res h (some (.int x)) (hup h1 oo (9, [.long res.1.2.toInt64, w])) :=
  ⟨by rw [hz, hx], S1.out9 (f _ _ ho rfl) _, LwK.put f _ _, fun _ => ⟨w, hup_self _ _ _⟩, by omega⟩
theorem LwS.thr {k : Nat} (hk : 0 < k ∧ k ≤ 2) (q : res.1.1 = k) (hst : res.2 = st) (C0 : StC B Q P ox kn h st) (ho : h oo = some (9, [v, w])) (hx : x = nI k) : LwS B Q P ox kn oo res h (some (.int x)) h :=
  ⟨by rw [q, hx], by rw [hst]; exact C0, LwK.of (fun a c e _ => e) ho, fun z => by omega, by omega⟩
theorem LwQ.put (S1 : StC B Q P ox kn h1 st) (f : FrC h h1) (ho : h oo = some (9, [v, w])) (v' w' : Value) (x : Int32) : LwQ B Q P ox kn oo st h (some (.int x)) (hup h1 oo (9, [v', w'])) :=
  ⟨⟨x, rfl⟩, S1.out9 (f _ _ ho rfl) _, LwK.put f _ _⟩
theorem LwQ.of (S1 : StC B Q P ox kn h1 st) (f : FrC h h1) (ho : h oo = some (9, [v, w])) (x : Int32) : LwQ B Q P ox kn oo st h (some (.int x)) h1 := ⟨⟨x, rfl⟩, S1, LwK.of f ho⟩
theorem lwI_ne0 {k : Nat} (h : k ≤ 2) (h0 : ¬ k = 0) : ¬ nI k = 0 := by
  have e : k = 1 ∨ k = 2 := by omega
  rcases e with rfl | rfl <;> decide
theorem giveS_0 (j : Nat) (zs : List Nat) (t : Int32) (st : ST) : (giveS j zs t st).1.1 ≠ 2 := by
  unfold giveS
  split <;> exact (by decide : (0 : Nat) ≠ 2)
theorem becA_0 (k : Nat) (rows : List (List Nat)) (st : ST) : (becA k rows st).1.1 ≠ 2 := by
  unfold becA
  repeat (first | exact (by decide : (0 : Nat) ≠ 2) | split)
end LwL

theorem aUnlike_n2 (x1 x2 : Int32) (st : ST) : (aUnlike x1 x2 st).1.1 ≠ 2 := by
  unfold aUnlike
  repeat (first | exact giveS_0 _ _ _ _ | exact becA_0 _ _ _ | exact (by decide : (0 : Nat) ≠ 2) | exact (by decide : (1 : Nat) ≠ 2) | split)
theorem aCopy_n2 (x1 x2 : Int32) (st : ST) : (aCopy x1 x2 st).1.1 ≠ 2 := by
  unfold aCopy
  repeat (first | exact giveS_0 _ _ _ _ | exact becA_0 _ _ _ | exact (by decide : (0 : Nat) ≠ 2) | exact (by decide : (1 : Nat) ≠ 2) | split)
theorem aSwap_n2 (x1 x2 : Int32) (st : ST) : (aSwap x1 x2 st).1.1 ≠ 2 := by
  unfold aSwap
  repeat (first | exact giveS_0 _ _ _ _ | exact becA_0 _ _ _ | exact (by decide : (0 : Nat) ≠ 2) | exact (by decide : (1 : Nat) ≠ 2) | split)
theorem aPart_n2 (x1 x2 x3 : Int32) (st : ST) : (aPart x1 x2 x3 st).1.1 ≠ 2 := by
  unfold aPart
  repeat (first | exact giveS_0 _ _ _ _ | exact becA_0 _ _ _ | exact (by decide : (0 : Nat) ≠ 2) | exact (by decide : (1 : Nat) ≠ 2) | split)
theorem aGraft_n2 (x1 x2 x3 : Int32) (st : ST) : (aGraft x1 x2 x3 st).1.1 ≠ 2 := by
  unfold aGraft
  repeat (first | exact giveS_0 _ _ _ _ | exact becA_0 _ _ _ | exact (by decide : (0 : Nat) ≠ 2) | exact (by decide : (1 : Nat) ≠ 2) | split)
theorem aUse_n2 (x1 x2 x3 : Int32) (st : ST) : (aUse x1 x2 x3 st).1.1 ≠ 2 := by
  unfold aUse
  repeat (first | exact giveS_0 _ _ _ _ | exact becA_0 _ _ _ | exact (by decide : (0 : Nat) ≠ 2) | exact (by decide : (1 : Nat) ≠ 2) | split)
theorem aForget_n2 (x1 : Int32) (st : ST) : (aForget x1 st).1.1 ≠ 2 := by
  unfold aForget
  repeat (first | exact giveS_0 _ _ _ _ | exact becA_0 _ _ _ | exact (by decide : (0 : Nat) ≠ 2) | exact (by decide : (1 : Nat) ≠ 2) | split)
theorem aTake_n2 (x1 x2 : Int32) (st : ST) : (aTake x1 x2 st).1.1 ≠ 2 := by
  unfold aTake
  repeat (first | exact giveS_0 _ _ _ _ | exact becA_0 _ _ _ | exact (by decide : (0 : Nat) ≠ 2) | exact (by decide : (1 : Nat) ≠ 2) | split)
theorem aBehind_n2 (x1 x2 x3 : Int32) (st : ST) : (aBehind x1 x2 x3 st).1.1 ≠ 2 := by
  unfold aBehind
  repeat (first | exact giveS_0 _ _ _ _ | exact becA_0 _ _ _ | exact (by decide : (0 : Nat) ≠ 2) | exact (by decide : (1 : Nat) ≠ 2) | split)
theorem aPlain_n2 (x1 : Int32) (st : ST) : (aPlain x1 st).1.1 ≠ 2 := by
  unfold aPlain
  repeat (first | exact giveS_0 _ _ _ _ | exact becA_0 _ _ _ | exact (by decide : (0 : Nat) ≠ 2) | exact (by decide : (1 : Nat) ≠ 2) | split)
theorem aCommon_n2 (x1 x2 x3 : Int32) (st : ST) : (aCommon x1 x2 x3 st).1.1 ≠ 2 := by
  unfold aCommon
  repeat (first | exact giveS_0 _ _ _ _ | exact becA_0 _ _ _ | exact (by decide : (0 : Nat) ≠ 2) | exact (by decide : (1 : Nat) ≠ 2) | split)
theorem aMatch_n2 (x1 x2 x3 : Int32) (st : ST) : (aMatch x1 x2 x3 st).1.1 ≠ 2 := by
  unfold aMatch
  repeat (first | exact giveS_0 _ _ _ _ | exact becA_0 _ _ _ | exact (by decide : (0 : Nat) ≠ 2) | exact (by decide : (1 : Nat) ≠ 2) | split)
  all_goals first | exact giveS_0 _ _ _ _ | exact becA_0 _ _ _ | exact (by decide : (0 : Nat) ≠ 2) | exact (by decide : (1 : Nat) ≠ 2) | (unfold toldS becA; repeat (first | exact (by decide : (0 : Nat) ≠ 2) | split))
theorem aSize_n2 (x1 : Int32) (st : ST) : (aSize x1 st).1.1 ≠ 2 := by
  unfold aSize
  repeat (first | exact giveS_0 _ _ _ _ | exact becA_0 _ _ _ | exact (by decide : (0 : Nat) ≠ 2) | exact (by decide : (1 : Nat) ≠ 2) | split)
section PO
variable {p : Program} {la : Launch} {e : Env} {R : Room} {s : State} {m : MethodId} {args : Array Value} {below : List Frame} {meth : Method} {c : Code} {Q : State → Prop}
variable {D : va_G} {cA : Nat → ClassId} {B0 pa nL : Nat} {cc : ByteArray} {own : String} {pc k n : Nat} {l : List (Nat × Value)} {r : List Value} {h : AH}
set_option maxHeartbeats 2000000 in
/-- a field of the law's box -/
theorem putO_ok (X : CX p s m args c D cA B0 nL cc own) (E : EN D cA B0 pa s) {idx kf a : Nat} {fs : List Value} {v : Value} {ty : FieldType} {host : String} (hlk : Cond.fieldLinkNest own idx RX7 (TX7 kf).2.1 (TX7 kf).2.2.1 host ∈ lw_tbl) (hk : kf < 2) (hC : (TX7 kf).1 = RX7) (hfn : (TX7 kf).2.2.2 = false) (hdt : parseFieldDescriptor (TX7 kf).2.2.1 = some ty)
    (hn : narrow ty v = v) (hfit : fits ty v = true) (hd : decode cc pc = .ok (.putfield idx, 3)) (ha : h a = some (9, fs)) (hl0 : kf < fs.length)
    (kk : WS p la e R s m args below meth c Q D cA B0 nL (pc + 3) l r (hup h a (9, fs.set kf v)) k n) : WS p la e R s m args below meth c Q D cA B0 nL pc l (v :: .ref a :: r) h k n := by
  obtain ⟨hx, hb, hml, hown, hts, hK, hB⟩ := X
  intro H locs ls hH hls
  obtain ⟨r0, h1, h2, cell, q1, q2, q3, q4⟩ := (hH.1 a _ ha).2.1 (show (9 : Nat) < 100 by decide)
  have hc : vwCl[9]? = some (RX7, TX7, 2) := rfl
  have hr : r0 = (RX7, TX7, 2) := Option.some.inj (h1.symm.trans hc)
  subst hr
  have hap := va_apart (own := own) hts cwX7 tyX7 tyX7_ok nmX7 hK.1 hc
  obtain ⟨hS, hfc, kC, hkC, hkind⟩ := hK.1.1 9 _ hc
  obtain ⟨cf, kf0, fi, f, hi, hsl⟩ := hS kf hk
  have hlay := hts _ (cwX7 _ (u_in_lay hk))
  have hst := (u_facts hfc hkC (u_lays hts cwX7 hk) hi).1
  unfold u_lay at hlay
  rw [if_neg (by rw [hfn]; decide)] at hlay
  have h6 := u_store hfc hkC hkind hlay hi hdt hn hfit
  refine va_WputK hx hb (f := f) hown (va_Nw.use rfl (E.2.1 _ hlk rfl)) (by rw [← hC]; exact hi) hst (by rw [q2]; exact h6) q1 q3 (by rw [hsl]; exact k2_hasslot (q4 kf hk)) rfl rfl hd (fun H1 e1 e2 e3 => ?_)
  rw [hsl] at e1 ⊢
  exact kk H1 _ ls ⟨hH.1.put ha ⟨fun _ => ⟨_, hc, by simpa using h2, t_OB.to (V := updV (vp_V fs) kf v) ⟨_, e1, q2, q3, t_set q4 hap hk v⟩ (fun j _ => vp_updV_set hl0 v j)⟩, fun z => absurd (show (9 : Nat) < 100 by decide) z⟩ e3, hH.2.put e2 e3 (hH.1 a _ ha).1⟩ hls
end PO
section G03
variable {la : Launch} {D : va_G} {cA : Nat → ClassId} {B0 pa : Nat}
set_option maxHeartbeats 2000000 in
theorem c7o_init (h : AH) {o : Nat} {v w : Value} (ho : h o = some (9, [v, w])) : CT la D cA B0 pa yX7_init cX7_init 1 none (rmD 1 0 0) [.ref o] h (fun r h' => r = none ∧ h' = h) := by
  refine CT_of (by decide +kernel) (Nat.le_of_ble_eq_true rfl) ?_
  intro p e s m args below meth c X E hr hlk hnm
  have dk : ∀ {pc : Nat} {q : Instr × Nat}, lkd DX7_init pc = some q → decode cX7_init pc = .ok q := lkd_ok DX7_init_ok
  refine fst1_ok X (dk rfl) rfl ?_
  refine obj_ok X ml7_obj (dk rfl) (Nat.le_of_ble_eq_true rfl) (Nat.le_of_ble_eq_true rfl) (Nat.le_of_ble_eq_true rfl) ?_
  exact retv_ok X hr hlk (dk rfl) ⟨rfl, rfl⟩ (Nat.le_of_ble_eq_true rfl) (Nat.le_of_ble_eq_true rfl)
set_option maxHeartbeats 4000000 in
theorem w_name {B Q P : Nat → Nat} (h : AH) (hl : la.stackTraces = false) (Y : LYO B Q) {ox : Nat} {kn : Int32} {st : ST} (C0 : StC B Q P ox kn h st) {oo : Nat} {v w : Value} (ho : h oo = some (9, [v, w])) (x1 x2 : Int32) : CTH la D cA B0 pa yL_name cL_name 5 (some .int) [(0, 11, 14, 19), (0, 11, 18, 21)] (rmD 8 2 12) [.ref ox, .int x1, .int x2, .ref oo] h (LwS B Q P ox kn oo (aName x1 x2 st) h) := by
  refine CTH_of (by decide +kernel) (Nat.le_of_ble_eq_true rfl) ?_
  intro p e s m args below meth c X E hr hlk hT
  have dk : ∀ {pc : Nat} {q : Instr × Nat}, lkd DL_name pc = some q → decode cL_name pc = .ok q := lkd_ok DL_name_ok
  obtain ⟨fs, -, hb⟩ := C0.cell
  iterate 4 refine fst1_ok X (dk rfl) rfl ?_
  refine callVH_ok (ci := 8) (T := TX6) (N := 14) (av := [.int x1, .int x2]) (r := [.ref oo]) X E (s6_name h hl Y C0 x1 x2) lkX6_name mlL_7 lmX6_name lpX6_name ⟨Nat.le_of_ble_eq_true rfl, Nat.le_of_ble_eq_true rfl⟩ ⟨Nat.le_of_ble_eq_true rfl, Nat.le_of_ble_eq_true rfl⟩ rfl hb (Nat.le_of_ble_eq_true rfl) (dk rfl) ?_ ?_
  · rintro _ h1 ⟨hz, rfl, S1, f1⟩
    have ho1 := f1 _ _ ho rfl
    refine fst1_ok X (dk rfl) rfl ?_
    refine putO_ok X E (kf := 0) (ty := .long) fnL_13 (by decide) rfl rfl (by decide +kernel) rfl rfl (dk rfl) ho1 (Nat.le_of_ble_eq_true rfl) ?_
    refine br_ok X (dk rfl) rfl (show ((11 : Nat) : Int) + 11 = ((22 : Nat) : Int) from rfl) (fun _ => ?_) (fun q => absurd trivial q)
    refine fst1_ok X (dk rfl) rfl ?_
    refine WRX.ret ?_
    exact reti_ok X hr hlk rfl (dk rfl) (LwS.put hz S1 f1 ho rfl) (Nat.le_of_ble_eq_true rfl) (Nat.le_of_ble_eq_true rfl)
  · rintro E1 h1 ⟨hE, hst, e1⟩
    subst e1
    rcases hE with ⟨q1, rfl⟩ | ⟨q1, rfl⟩
    · refine catch_ok X E [] ⟨0, 11, 14, 19⟩ [⟨0, 11, 18, 21⟩] hT (fun z hz => by cases hz) (by decide) (by decide) clL_19 cstI (fun q => ?_)
      iterate 2 refine fst1_ok X (dk rfl) rfl ?_
      refine WRX.ret ?_
      exact reti_ok X hr hlk rfl (dk rfl) (LwS.thr (k := 1) (by decide) q1 hst C0 ho rfl) (Nat.le_of_ble_eq_true rfl) (Nat.le_of_ble_eq_true rfl)
    · refine catch_ok X E [⟨0, 11, 14, 19⟩] ⟨0, 11, 18, 21⟩ [] hT (fun z hz => Or.inr (by rw [List.mem_singleton.mp hz]; exact ⟨by decide, ioobe, clL_19, E.2.2.2.1.2.2.2.2.2.2.2.2.1⟩)) (by decide) (by decide) clL_21 cstA (fun q => ?_)
      iterate 2 refine fst1_ok X (dk rfl) rfl ?_
      refine WRX.ret ?_
      exact reti_ok X hr hlk rfl (dk rfl) (LwS.thr (k := 2) (by decide) q1 hst C0 ho rfl) (Nat.le_of_ble_eq_true rfl) (Nat.le_of_ble_eq_true rfl)
set_option maxHeartbeats 4000000 in
theorem w_head {B Q P : Nat → Nat} (h : AH) (hl : la.stackTraces = false) (Y : LYO B Q) {ox : Nat} {kn : Int32} {st : ST} (C0 : StC B Q P ox kn h st) {oo : Nat} {v w : Value} (ho : h oo = some (9, [v, w])) (x1 x2 x3 x4 x5 : Int32) : CTH la D cA B0 pa yL_head cL_head 8 (some .int) [(0, 17, 20, 19), (0, 17, 24, 21)] (rmD 8 5 30) [.ref ox, .int x1, .int x2, .int x3, .int x4, .int x5, .ref oo] h (LwS B Q P ox kn oo (aHead x1 x2 x3 x4 x5 st) h) := by
  refine CTH_of (by decide +kernel) (Nat.le_of_ble_eq_true rfl) ?_
  intro p e s m args below meth c X E hr hlk hT
  have dk : ∀ {pc : Nat} {q : Instr × Nat}, lkd DL_head pc = some q → decode cL_head pc = .ok q := lkd_ok DL_head_ok
  obtain ⟨fs, -, hb⟩ := C0.cell
  iterate 7 refine fst1_ok X (dk rfl) rfl ?_
  refine callVH_ok (ci := 8) (T := TX6) (N := 14) (av := [.int x1, .int x2, .int x3, .int x4, .int x5]) (r := [.ref oo]) X E (s6_head h hl Y C0 x1 x2 x3 x4 x5) lkX6_head mlL_23 lmX6_head lpX6_head ⟨Nat.le_of_ble_eq_true rfl, Nat.le_of_ble_eq_true rfl⟩ ⟨Nat.le_of_ble_eq_true rfl, Nat.le_of_ble_eq_true rfl⟩ rfl hb (Nat.le_of_ble_eq_true rfl) (dk rfl) ?_ ?_
  · rintro _ h1 ⟨hz, rfl, S1, f1⟩
    have ho1 := f1 _ _ ho rfl
    refine fst1_ok X (dk rfl) rfl ?_
    refine putO_ok X E (kf := 0) (ty := .long) fnL_13 (by decide) rfl rfl (by decide +kernel) rfl rfl (dk rfl) ho1 (Nat.le_of_ble_eq_true rfl) ?_
    refine br_ok X (dk rfl) rfl (show ((17 : Nat) : Int) + 11 = ((28 : Nat) : Int) from rfl) (fun _ => ?_) (fun q => absurd trivial q)
    refine fst1_ok X (dk rfl) rfl ?_
    refine WRX.ret ?_
    exact reti_ok X hr hlk rfl (dk rfl) (LwS.put hz S1 f1 ho rfl) (Nat.le_of_ble_eq_true rfl) (Nat.le_of_ble_eq_true rfl)
  · rintro E1 h1 ⟨hE, hst, e1⟩
    subst e1
    rcases hE with ⟨q1, rfl⟩ | ⟨q1, rfl⟩
    · refine catch_ok X E [] ⟨0, 17, 20, 19⟩ [⟨0, 17, 24, 21⟩] hT (fun z hz => by cases hz) (by decide) (by decide) clL_19 cstI (fun q => ?_)
      iterate 2 refine fst1_ok X (dk rfl) rfl ?_
      refine WRX.ret ?_
      exact reti_ok X hr hlk rfl (dk rfl) (LwS.thr (k := 1) (by decide) q1 hst C0 ho rfl) (Nat.le_of_ble_eq_true rfl) (Nat.le_of_ble_eq_true rfl)
    · refine catch_ok X E [⟨0, 17, 20, 19⟩] ⟨0, 17, 24, 21⟩ [] hT (fun z hz => Or.inr (by rw [List.mem_singleton.mp hz]; exact ⟨by decide, ioobe, clL_19, E.2.2.2.1.2.2.2.2.2.2.2.2.1⟩)) (by decide) (by decide) clL_21 cstA (fun q => ?_)
      iterate 2 refine fst1_ok X (dk rfl) rfl ?_
      refine WRX.ret ?_
      exact reti_ok X hr hlk rfl (dk rfl) (LwS.thr (k := 2) (by decide) q1 hst C0 ho rfl) (Nat.le_of_ble_eq_true rfl) (Nat.le_of_ble_eq_true rfl)
set_option maxHeartbeats 4000000 in
theorem w_copy {B Q P : Nat → Nat} (h : AH) (hl : la.stackTraces = false) (Y : LYO B Q) {ox : Nat} {kn : Int32} {st : ST} (C0 : StC B Q P ox kn h st) {oo : Nat} {v w : Value} (ho : h oo = some (9, [v, w])) (x1 x2 : Int32) : CTH la D cA B0 pa yL_copy cL_copy 5 (some .int) [(0, 11, 14, 19)] (rmD 8 2 12) [.ref ox, .int x1, .int x2, .ref oo] h (LwS B Q P ox kn oo (aCopy x1 x2 st) h) := by
  refine CTH_of (by decide +kernel) (Nat.le_of_ble_eq_true rfl) ?_
  intro p e s m args below meth c X E hr hlk hT
  have dk : ∀ {pc : Nat} {q : Instr × Nat}, lkd DL_copy pc = some q → decode cL_copy pc = .ok q := lkd_ok DL_copy_ok
  obtain ⟨fs, -, hb⟩ := C0.cell
  iterate 4 refine fst1_ok X (dk rfl) rfl ?_
  refine callVH_ok (ci := 8) (T := TX6) (N := 14) (av := [.int x1, .int x2]) (r := [.ref oo]) X E (s6_copy h hl Y C0 x1 x2) lkX6_copy mlL_27 lmX6_copy lpX6_copy ⟨Nat.le_of_ble_eq_true rfl, Nat.le_of_ble_eq_true rfl⟩ ⟨Nat.le_of_ble_eq_true rfl, Nat.le_of_ble_eq_true rfl⟩ rfl hb (Nat.le_of_ble_eq_true rfl) (dk rfl) ?_ ?_
  · rintro _ h1 ⟨hz, rfl, S1, f1⟩
    have ho1 := f1 _ _ ho rfl
    refine fst1_ok X (dk rfl) rfl ?_
    refine putO_ok X E (kf := 0) (ty := .long) fnL_13 (by decide) rfl rfl (by decide +kernel) rfl rfl (dk rfl) ho1 (Nat.le_of_ble_eq_true rfl) ?_
    refine br_ok X (dk rfl) rfl (show ((11 : Nat) : Int) + 7 = ((18 : Nat) : Int) from rfl) (fun _ => ?_) (fun q => absurd trivial q)
    refine fst1_ok X (dk rfl) rfl ?_
    refine WRX.ret ?_
    exact reti_ok X hr hlk rfl (dk rfl) (LwS.put hz S1 f1 ho rfl) (Nat.le_of_ble_eq_true rfl) (Nat.le_of_ble_eq_true rfl)
  · rintro E1 h1 ⟨hE, hst, e1⟩
    subst e1
    rcases hE with ⟨q1, rfl⟩ | ⟨q1, rfl⟩
    · refine catch_ok X E [] ⟨0, 11, 14, 19⟩ [] hT (fun z hz => by cases hz) (by decide) (by decide) clL_19 cstI (fun q => ?_)
      iterate 2 refine fst1_ok X (dk rfl) rfl ?_
      refine WRX.ret ?_
      exact reti_ok X hr hlk rfl (dk rfl) (LwS.thr (k := 1) (by decide) q1 hst C0 ho rfl) (Nat.le_of_ble_eq_true rfl) (Nat.le_of_ble_eq_true rfl)
    · exact absurd q1 (aCopy_n2 x1 x2 st)
set_option maxHeartbeats 4000000 in
theorem w_swap {B Q P : Nat → Nat} (h : AH) (hl : la.stackTraces = false) (Y : LYO B Q) {ox : Nat} {kn : Int32} {st : ST} (C0 : StC B Q P ox kn h st) {oo : Nat} {v w : Value} (ho : h oo = some (9, [v, w])) (x1 x2 : Int32) : CTH la D cA B0 pa yL_swap cL_swap 5 (some .int) [(0, 11, 14, 19)] (rmD 8 2 12) [.ref ox, .int x1, .int x2, .ref oo] h (LwS B Q P ox kn oo (aSwap x1 x2 st) h) := by
  refine CTH_of (by decide +kernel) (Nat.le_of_ble_eq_true rfl) ?_
  intro p e s m args below meth c X E hr hlk hT
  have dk : ∀ {pc : Nat} {q : Instr × Nat}, lkd DL_swap pc = some q → decode cL_swap pc = .ok q := lkd_ok DL_swap_ok
  obtain ⟨fs, -, hb⟩ := C0.cell
  iterate 4 refine fst1_ok X (dk rfl) rfl ?_
  refine callVH_ok (ci := 8) (T := TX6) (N := 14) (av := [.int x1, .int x2]) (r := [.ref oo]) X E (s6_swap h hl Y C0 x1 x2) lkX6_swap mlL_30 lmX6_swap lpX6_swap ⟨Nat.le_of_ble_eq_true rfl, Nat.le_of_ble_eq_true rfl⟩ ⟨Nat.le_of_ble_eq_true rfl, Nat.le_of_ble_eq_true rfl⟩ rfl hb (Nat.le_of_ble_eq_true rfl) (dk rfl) ?_ ?_
  · rintro _ h1 ⟨hz, rfl, S1, f1⟩
    have ho1 := f1 _ _ ho rfl
    refine fst1_ok X (dk rfl) rfl ?_
    refine putO_ok X E (kf := 0) (ty := .long) fnL_13 (by decide) rfl rfl (by decide +kernel) rfl rfl (dk rfl) ho1 (Nat.le_of_ble_eq_true rfl) ?_
    refine br_ok X (dk rfl) rfl (show ((11 : Nat) : Int) + 7 = ((18 : Nat) : Int) from rfl) (fun _ => ?_) (fun q => absurd trivial q)
    refine fst1_ok X (dk rfl) rfl ?_
    refine WRX.ret ?_
    exact reti_ok X hr hlk rfl (dk rfl) (LwS.put hz S1 f1 ho rfl) (Nat.le_of_ble_eq_true rfl) (Nat.le_of_ble_eq_true rfl)
  · rintro E1 h1 ⟨hE, hst, e1⟩
    subst e1
    rcases hE with ⟨q1, rfl⟩ | ⟨q1, rfl⟩
    · refine catch_ok X E [] ⟨0, 11, 14, 19⟩ [] hT (fun z hz => by cases hz) (by decide) (by decide) clL_19 cstI (fun q => ?_)
      iterate 2 refine fst1_ok X (dk rfl) rfl ?_
      refine WRX.ret ?_
      exact reti_ok X hr hlk rfl (dk rfl) (LwS.thr (k := 1) (by decide) q1 hst C0 ho rfl) (Nat.le_of_ble_eq_true rfl) (Nat.le_of_ble_eq_true rfl)
    · exact absurd q1 (aSwap_n2 x1 x2 st)
set_option maxHeartbeats 4000000 in
theorem w_part {B Q P : Nat → Nat} (h : AH) (hl : la.stackTraces = false) (Y : LYO B Q) {ox : Nat} {kn : Int32} {st : ST} (C0 : StC B Q P ox kn h st) {oo : Nat} {v w : Value} (ho : h oo = some (9, [v, w])) (x1 x2 x3 : Int32) : CTH la D cA B0 pa yL_part cL_part 6 (some .int) [(0, 13, 16, 19)] (rmD 8 2 12) [.ref ox, .int x1, .int x2, .int x3, .ref oo] h (LwS B Q P ox kn oo (aPart x1 x2 x3 st) h) := by
  refine CTH_of (by decide +kernel) (Nat.le_of_ble_eq_true rfl) ?_
  intro p e s m args below meth c X E hr hlk hT
  have dk : ∀ {pc : Nat} {q : Instr × Nat}, lkd DL_part pc = some q → decode cL_part pc = .ok q := lkd_ok DL_part_ok
  obtain ⟨fs, -, hb⟩ := C0.cell
  iterate 5 refine fst1_ok X (dk rfl) rfl ?_
  refine callVH_ok (ci := 8) (T := TX6) (N := 14) (av := [.int x1, .int x2, .int x3]) (r := [.ref oo]) X E (s6_part h hl Y C0 x1 x2 x3) lkX6_part mlL_33 lmX6_part lpX6_part ⟨Nat.le_of_ble_eq_true rfl, Nat.le_of_ble_eq_true rfl⟩ ⟨Nat.le_of_ble_eq_true rfl, Nat.le_of_ble_eq_true rfl⟩ rfl hb (Nat.le_of_ble_eq_true rfl) (dk rfl) ?_ ?_
  · rintro _ h1 ⟨hz, rfl, S1, f1⟩
    have ho1 := f1 _ _ ho rfl
    refine fst1_ok X (dk rfl) rfl ?_
    refine putO_ok X E (kf := 0) (ty := .long) fnL_13 (by decide) rfl rfl (by decide +kernel) rfl rfl (dk rfl) ho1 (Nat.le_of_ble_eq_true rfl) ?_
    refine br_ok X (dk rfl) rfl (show ((13 : Nat) : Int) + 7 = ((20 : Nat) : Int) from rfl) (fun _ => ?_) (fun q => absurd trivial q)
    refine fst1_ok X (dk rfl) rfl ?_
    refine WRX.ret ?_
    exact reti_ok X hr hlk rfl (dk rfl) (LwS.put hz S1 f1 ho rfl) (Nat.le_of_ble_eq_true rfl) (Nat.le_of_ble_eq_true rfl)
  · rintro E1 h1 ⟨hE, hst, e1⟩
    subst e1
    rcases hE with ⟨q1, rfl⟩ | ⟨q1, rfl⟩
    · refine catch_ok X E [] ⟨0, 13, 16, 19⟩ [] hT (fun z hz => by cases hz) (by decide) (by decide) clL_19 cstI (fun q => ?_)
      iterate 2 refine fst1_ok X (dk rfl) rfl ?_
      refine WRX.ret ?_
      exact reti_ok X hr hlk rfl (dk rfl) (LwS.thr (k := 1) (by decide) q1 hst C0 ho rfl) (Nat.le_of_ble_eq_true rfl) (Nat.le_of_ble_eq_true rfl)
    · exact absurd q1 (aPart_n2 x1 x2 x3 st)
set_option maxHeartbeats 4000000 in
theorem w_graft {B Q P : Nat → Nat} (h : AH) (hl : la.stackTraces = false) (Y : LYO B Q) {ox : Nat} {kn : Int32} {st : ST} (C0 : StC B Q P ox kn h st) {oo : Nat} {v w : Value} (ho : h oo = some (9, [v, w])) (x1 x2 x3 : Int32) : CTH la D cA B0 pa yL_graft cL_graft 6 (some .int) [(0, 13, 16, 19)] (rmD 8 2 12) [.ref ox, .int x1, .int x2, .int x3, .ref oo] h (LwS B Q P ox kn oo (aGraft x1 x2 x3 st) h) := by
  refine CTH_of (by decide +kernel) (Nat.le_of_ble_eq_true rfl) ?_
  intro p e s m args below meth c X E hr hlk hT
  have dk : ∀ {pc : Nat} {q : Instr × Nat}, lkd DL_graft pc = some q → decode cL_graft pc = .ok q := lkd_ok DL_graft_ok
  obtain ⟨fs, -, hb⟩ := C0.cell
  iterate 5 refine fst1_ok X (dk rfl) rfl ?_
  refine callVH_ok (ci := 8) (T := TX6) (N := 14) (av := [.int x1, .int x2, .int x3]) (r := [.ref oo]) X E (s6_graft h hl Y C0 x1 x2 x3) lkX6_graft mlL_37 lmX6_graft lpX6_graft ⟨Nat.le_of_ble_eq_true rfl, Nat.le_of_ble_eq_true rfl⟩ ⟨Nat.le_of_ble_eq_true rfl, Nat.le_of_ble_eq_true rfl⟩ rfl hb (Nat.le_of_ble_eq_true rfl) (dk rfl) ?_ ?_
  · rintro _ h1 ⟨hz, rfl, S1, f1⟩
    have ho1 := f1 _ _ ho rfl
    refine fst1_ok X (dk rfl) rfl ?_
    refine putO_ok X E (kf := 0) (ty := .long) fnL_13 (by decide) rfl rfl (by decide +kernel) rfl rfl (dk rfl) ho1 (Nat.le_of_ble_eq_true rfl) ?_
    refine br_ok X (dk rfl) rfl (show ((13 : Nat) : Int) + 7 = ((20 : Nat) : Int) from rfl) (fun _ => ?_) (fun q => absurd trivial q)
    refine fst1_ok X (dk rfl) rfl ?_
    refine WRX.ret ?_
    exact reti_ok X hr hlk rfl (dk rfl) (LwS.put hz S1 f1 ho rfl) (Nat.le_of_ble_eq_true rfl) (Nat.le_of_ble_eq_true rfl)
  · rintro E1 h1 ⟨hE, hst, e1⟩
    subst e1
    rcases hE with ⟨q1, rfl⟩ | ⟨q1, rfl⟩
    · refine catch_ok X E [] ⟨0, 13, 16, 19⟩ [] hT (fun z hz => by cases hz) (by decide) (by decide) clL_19 cstI (fun q => ?_)
      iterate 2 refine fst1_ok X (dk rfl) rfl ?_
      refine WRX.ret ?_
      exact reti_ok X hr hlk rfl (dk rfl) (LwS.thr (k := 1) (by decide) q1 hst C0 ho rfl) (Nat.le_of_ble_eq_true rfl) (Nat.le_of_ble_eq_true rfl)
    · exact absurd q1 (aGraft_n2 x1 x2 x3 st)
set_option maxHeartbeats 4000000 in
theorem w_put {B Q P : Nat → Nat} (h : AH) (hl : la.stackTraces = false) (Y : LYO B Q) {ox : Nat} {kn : Int32} {st : ST} (C0 : StC B Q P ox kn h st) {oo : Nat} {v w : Value} (ho : h oo = some (9, [v, w])) (x1 x2 x3 : Int32) : CTH la D cA B0 pa yL_put cL_put 6 (some .int) [(0, 13, 16, 19), (0, 13, 20, 21)] (rmD 8 3 18) [.ref ox, .int x1, .int x2, .int x3, .ref oo] h (LwS B Q P ox kn oo (aPut x1 x2 x3 st) h) := by
  refine CTH_of (by decide +kernel) (Nat.le_of_ble_eq_true rfl) ?_
  intro p e s m args below meth c X E hr hlk hT
  have dk : ∀ {pc : Nat} {q : Instr × Nat}, lkd DL_put pc = some q → decode cL_put pc = .ok q := lkd_ok DL_put_ok
  obtain ⟨fs, -, hb⟩ := C0.cell
  iterate 5 refine fst1_ok X (dk rfl) rfl ?_
  refine callVH_ok (ci := 8) (T := TX6) (N := 14) (av := [.int x1, .int x2, .int x3]) (r := [.ref oo]) X E (s6_put h hl Y C0 x1 x2 x3) lkX6_put mlL_40 lmX6_put lpX6_put ⟨Nat.le_of_ble_eq_true rfl, Nat.le_of_ble_eq_true rfl⟩ ⟨Nat.le_of_ble_eq_true rfl, Nat.le_of_ble_eq_true rfl⟩ rfl hb (Nat.le_of_ble_eq_true rfl) (dk rfl) ?_ ?_
  · rintro _ h1 ⟨hz, rfl, S1, f1⟩
    have ho1 := f1 _ _ ho rfl
    refine fst1_ok X (dk rfl) rfl ?_
    refine putO_ok X E (kf := 0) (ty := .long) fnL_13 (by decide) rfl rfl (by decide +kernel) rfl rfl (dk rfl) ho1 (Nat.le_of_ble_eq_true rfl) ?_
    refine br_ok X (dk rfl) rfl (show ((13 : Nat) : Int) + 11 = ((24 : Nat) : Int) from rfl) (fun _ => ?_) (fun q => absurd trivial q)
    refine fst1_ok X (dk rfl) rfl ?_
    refine WRX.ret ?_
    exact reti_ok X hr hlk rfl (dk rfl) (LwS.put hz S1 f1 ho rfl) (Nat.le_of_ble_eq_true rfl) (Nat.le_of_ble_eq_true rfl)
  · rintro E1 h1 ⟨hE, hst, e1⟩
    subst e1
    rcases hE with ⟨q1, rfl⟩ | ⟨q1, rfl⟩
    · refine catch_ok X E [] ⟨0, 13, 16, 19⟩ [⟨0, 13, 20, 21⟩] hT (fun z hz => by cases hz) (by decide) (by decide) clL_19 cstI (fun q => ?_)
      iterate 2 refine fst1_ok X (dk rfl) rfl ?_
      refine WRX.ret ?_
      exact reti_ok X hr hlk rfl (dk rfl) (LwS.thr (k := 1) (by decide) q1 hst C0 ho rfl) (Nat.le_of_ble_eq_true rfl) (Nat.le_of_ble_eq_true rfl)
    · refine catch_ok X E [⟨0, 13, 16, 19⟩] ⟨0, 13, 20, 21⟩ [] hT (fun z hz => Or.inr (by rw [List.mem_singleton.mp hz]; exact ⟨by decide, ioobe, clL_19, E.2.2.2.1.2.2.2.2.2.2.2.2.1⟩)) (by decide) (by decide) clL_21 cstA (fun q => ?_)
      iterate 2 refine fst1_ok X (dk rfl) rfl ?_
      refine WRX.ret ?_
      exact reti_ok X hr hlk rfl (dk rfl) (LwS.thr (k := 2) (by decide) q1 hst C0 ho rfl) (Nat.le_of_ble_eq_true rfl) (Nat.le_of_ble_eq_true rfl)
set_option maxHeartbeats 4000000 in
theorem w_shift {B Q P : Nat → Nat} (h : AH) (hl : la.stackTraces = false) (Y : LYO B Q) {ox : Nat} {kn : Int32} {st : ST} (C0 : StC B Q P ox kn h st) {oo : Nat} {v w : Value} (ho : h oo = some (9, [v, w])) (x1 x2 : Int32) : CTH la D cA B0 pa yL_shift cL_shift 5 (some .int) [(0, 11, 14, 19), (0, 11, 18, 21)] (rmD 8 2 12) [.ref ox, .int x1, .int x2, .ref oo] h (LwS B Q P ox kn oo (aShift x1 x2 st) h) := by
  refine CTH_of (by decide +kernel) (Nat.le_of_ble_eq_true rfl) ?_
  intro p e s m args below meth c X E hr hlk hT
  have dk : ∀ {pc : Nat} {q : Instr × Nat}, lkd DL_shift pc = some q → decode cL_shift pc = .ok q := lkd_ok DL_shift_ok
  obtain ⟨fs, -, hb⟩ := C0.cell
  iterate 4 refine fst1_ok X (dk rfl) rfl ?_
  refine callVH_ok (ci := 8) (T := TX6) (N := 14) (av := [.int x1, .int x2]) (r := [.ref oo]) X E (s6_shift h hl Y C0 x1 x2) lkX6_shift mlL_43 lmX6_shift lpX6_shift ⟨Nat.le_of_ble_eq_true rfl, Nat.le_of_ble_eq_true rfl⟩ ⟨Nat.le_of_ble_eq_true rfl, Nat.le_of_ble_eq_true rfl⟩ rfl hb (Nat.le_of_ble_eq_true rfl) (dk rfl) ?_ ?_
  · rintro _ h1 ⟨hz, rfl, S1, f1⟩
    have ho1 := f1 _ _ ho rfl
    refine fst1_ok X (dk rfl) rfl ?_
    refine putO_ok X E (kf := 0) (ty := .long) fnL_13 (by decide) rfl rfl (by decide +kernel) rfl rfl (dk rfl) ho1 (Nat.le_of_ble_eq_true rfl) ?_
    refine br_ok X (dk rfl) rfl (show ((11 : Nat) : Int) + 11 = ((22 : Nat) : Int) from rfl) (fun _ => ?_) (fun q => absurd trivial q)
    refine fst1_ok X (dk rfl) rfl ?_
    refine WRX.ret ?_
    exact reti_ok X hr hlk rfl (dk rfl) (LwS.put hz S1 f1 ho rfl) (Nat.le_of_ble_eq_true rfl) (Nat.le_of_ble_eq_true rfl)
  · rintro E1 h1 ⟨hE, hst, e1⟩
    subst e1
    rcases hE with ⟨q1, rfl⟩ | ⟨q1, rfl⟩
    · refine catch_ok X E [] ⟨0, 11, 14, 19⟩ [⟨0, 11, 18, 21⟩] hT (fun z hz => by cases hz) (by decide) (by decide) clL_19 cstI (fun q => ?_)
      iterate 2 refine fst1_ok X (dk rfl) rfl ?_
      refine WRX.ret ?_
      exact reti_ok X hr hlk rfl (dk rfl) (LwS.thr (k := 1) (by decide) q1 hst C0 ho rfl) (Nat.le_of_ble_eq_true rfl) (Nat.le_of_ble_eq_true rfl)
    · refine catch_ok X E [⟨0, 11, 14, 19⟩] ⟨0, 11, 18, 21⟩ [] hT (fun z hz => Or.inr (by rw [List.mem_singleton.mp hz]; exact ⟨by decide, ioobe, clL_19, E.2.2.2.1.2.2.2.2.2.2.2.2.1⟩)) (by decide) (by decide) clL_21 cstA (fun q => ?_)
      iterate 2 refine fst1_ok X (dk rfl) rfl ?_
      refine WRX.ret ?_
      exact reti_ok X hr hlk rfl (dk rfl) (LwS.thr (k := 2) (by decide) q1 hst C0 ho rfl) (Nat.le_of_ble_eq_true rfl) (Nat.le_of_ble_eq_true rfl)
set_option maxHeartbeats 4000000 in
theorem w_plain {B Q P : Nat → Nat} (h : AH) (hl : la.stackTraces = false) (Y : LYO B Q) {ox : Nat} {kn : Int32} {st : ST} (C0 : StC B Q P ox kn h st) {oo : Nat} {v w : Value} (ho : h oo = some (9, [v, w])) (x1 : Int32) : CTH la D cA B0 pa yL_plain cL_plain 4 (some .int) [(0, 10, 13, 19)] (rmD 8 1 6) [.ref ox, .int x1, .ref oo] h (LwS B Q P ox kn oo (aPlain x1 st) h) := by
  refine CTH_of (by decide +kernel) (Nat.le_of_ble_eq_true rfl) ?_
  intro p e s m args below meth c X E hr hlk hT
  have dk : ∀ {pc : Nat} {q : Instr × Nat}, lkd DL_plain pc = some q → decode cL_plain pc = .ok q := lkd_ok DL_plain_ok
  obtain ⟨fs, -, hb⟩ := C0.cell
  iterate 3 refine fst1_ok X (dk rfl) rfl ?_
  refine callVH_ok (ci := 8) (T := TX6) (N := 14) (av := [.int x1]) (r := [.ref oo]) X E (s6_plain h hl Y C0 x1) lkX6_plain mlL_46 lmX6_plain lpX6_plain ⟨Nat.le_of_ble_eq_true rfl, Nat.le_of_ble_eq_true rfl⟩ ⟨Nat.le_of_ble_eq_true rfl, Nat.le_of_ble_eq_true rfl⟩ rfl hb (Nat.le_of_ble_eq_true rfl) (dk rfl) ?_ ?_
  · rintro _ h1 ⟨hz, rfl, S1, f1⟩
    have ho1 := f1 _ _ ho rfl
    refine fst1_ok X (dk rfl) rfl ?_
    refine putO_ok X E (kf := 0) (ty := .long) fnL_13 (by decide) rfl rfl (by decide +kernel) rfl rfl (dk rfl) ho1 (Nat.le_of_ble_eq_true rfl) ?_
    refine br_ok X (dk rfl) rfl (show ((10 : Nat) : Int) + 6 = ((16 : Nat) : Int) from rfl) (fun _ => ?_) (fun q => absurd trivial q)
    refine fst1_ok X (dk rfl) rfl ?_
    refine WRX.ret ?_
    exact reti_ok X hr hlk rfl (dk rfl) (LwS.put hz S1 f1 ho rfl) (Nat.le_of_ble_eq_true rfl) (Nat.le_of_ble_eq_true rfl)
  · rintro E1 h1 ⟨hE, hst, e1⟩
    subst e1
    rcases hE with ⟨q1, rfl⟩ | ⟨q1, rfl⟩
    · refine catch_ok X E [] ⟨0, 10, 13, 19⟩ [] hT (fun z hz => by cases hz) (by decide) (by decide) clL_19 cstI (fun q => ?_)
      iterate 2 refine fst1_ok X (dk rfl) rfl ?_
      refine WRX.ret ?_
      exact reti_ok X hr hlk rfl (dk rfl) (LwS.thr (k := 1) (by decide) q1 hst C0 ho rfl) (Nat.le_of_ble_eq_true rfl) (Nat.le_of_ble_eq_true rfl)
    · exact absurd q1 (aPlain_n2 x1 st)
set_option maxHeartbeats 4000000 in
theorem w_use {B Q P : Nat → Nat} (h : AH) (hl : la.stackTraces = false) (Y : LYO B Q) {ox : Nat} {kn : Int32} {st : ST} (C0 : StC B Q P ox kn h st) {oo : Nat} {v w : Value} (ho : h oo = some (9, [v, w])) (x1 x2 x3 : Int32) : CTH la D cA B0 pa yL_use cL_use 6 (some .int) [(0, 13, 16, 19)] (rmD 8 3 18) [.ref ox, .int x1, .int x2, .int x3, .ref oo] h (LwS B Q P ox kn oo (aUse x1 x2 x3 st) h) := by
  refine CTH_of (by decide +kernel) (Nat.le_of_ble_eq_true rfl) ?_
  intro p e s m args below meth c X E hr hlk hT
  have dk : ∀ {pc : Nat} {q : Instr × Nat}, lkd DL_use pc = some q → decode cL_use pc = .ok q := lkd_ok DL_use_ok
  obtain ⟨fs, -, hb⟩ := C0.cell
  iterate 5 refine fst1_ok X (dk rfl) rfl ?_
  refine callVH_ok (ci := 8) (T := TX6) (N := 14) (av := [.int x1, .int x2, .int x3]) (r := [.ref oo]) X E (s6_use h hl Y C0 x1 x2 x3) lkX6_use mlL_50 lmX6_use lpX6_use ⟨Nat.le_of_ble_eq_true rfl, Nat.le_of_ble_eq_true rfl⟩ ⟨Nat.le_of_ble_eq_true rfl, Nat.le_of_ble_eq_true rfl⟩ rfl hb (Nat.le_of_ble_eq_true rfl) (dk rfl) ?_ ?_
  · rintro _ h1 ⟨hz, rfl, S1, f1⟩
    have ho1 := f1 _ _ ho rfl
    refine fst1_ok X (dk rfl) rfl ?_
    refine putO_ok X E (kf := 0) (ty := .long) fnL_13 (by decide) rfl rfl (by decide +kernel) rfl rfl (dk rfl) ho1 (Nat.le_of_ble_eq_true rfl) ?_
    refine br_ok X (dk rfl) rfl (show ((13 : Nat) : Int) + 7 = ((20 : Nat) : Int) from rfl) (fun _ => ?_) (fun q => absurd trivial q)
    refine fst1_ok X (dk rfl) rfl ?_
    refine WRX.ret ?_
    exact reti_ok X hr hlk rfl (dk rfl) (LwS.put hz S1 f1 ho rfl) (Nat.le_of_ble_eq_true rfl) (Nat.le_of_ble_eq_true rfl)
  · rintro E1 h1 ⟨hE, hst, e1⟩
    subst e1
    rcases hE with ⟨q1, rfl⟩ | ⟨q1, rfl⟩
    · refine catch_ok X E [] ⟨0, 13, 16, 19⟩ [] hT (fun z hz => by cases hz) (by decide) (by decide) clL_19 cstI (fun q => ?_)
      iterate 2 refine fst1_ok X (dk rfl) rfl ?_
      refine WRX.ret ?_
      exact reti_ok X hr hlk rfl (dk rfl) (LwS.thr (k := 1) (by decide) q1 hst C0 ho rfl) (Nat.le_of_ble_eq_true rfl) (Nat.le_of_ble_eq_true rfl)
    · exact absurd q1 (aUse_n2 x1 x2 x3 st)
set_option maxHeartbeats 4000000 in
theorem w_common {B Q P : Nat → Nat} (h : AH) (hl : la.stackTraces = false) (Y : LYO B Q) {ox : Nat} {kn : Int32} {st : ST} (C0 : StC B Q P ox kn h st) {oo : Nat} {v w : Value} (ho : h oo = some (9, [v, w])) (x1 x2 x3 : Int32) : CTH la D cA B0 pa yL_common cL_common 6 (some .int) [(0, 13, 16, 19)] (rmD 8 3 18) [.ref ox, .int x1, .int x2, .int x3, .ref oo] h (LwS B Q P ox kn oo (aCommon x1 x2 x3 st) h) := by
  refine CTH_of (by decide +kernel) (Nat.le_of_ble_eq_true rfl) ?_
  intro p e s m args below meth c X E hr hlk hT
  have dk : ∀ {pc : Nat} {q : Instr × Nat}, lkd DL_common pc = some q → decode cL_common pc = .ok q := lkd_ok DL_common_ok
  obtain ⟨fs, -, hb⟩ := C0.cell
  iterate 5 refine fst1_ok X (dk rfl) rfl ?_
  refine callVH_ok (ci := 8) (T := TX6) (N := 14) (av := [.int x1, .int x2, .int x3]) (r := [.ref oo]) X E (s6_common h hl Y C0 x1 x2 x3) lkX6_common mlL_53 lmX6_common lpX6_common ⟨Nat.le_of_ble_eq_true rfl, Nat.le_of_ble_eq_true rfl⟩ ⟨Nat.le_of_ble_eq_true rfl, Nat.le_of_ble_eq_true rfl⟩ rfl hb (Nat.le_of_ble_eq_true rfl) (dk rfl) ?_ ?_
  · rintro _ h1 ⟨hz, rfl, S1, f1⟩
    have ho1 := f1 _ _ ho rfl
    refine fst1_ok X (dk rfl) rfl ?_
    refine putO_ok X E (kf := 0) (ty := .long) fnL_13 (by decide) rfl rfl (by decide +kernel) rfl rfl (dk rfl) ho1 (Nat.le_of_ble_eq_true rfl) ?_
    refine br_ok X (dk rfl) rfl (show ((13 : Nat) : Int) + 7 = ((20 : Nat) : Int) from rfl) (fun _ => ?_) (fun q => absurd trivial q)
    refine fst1_ok X (dk rfl) rfl ?_
    refine WRX.ret ?_
    exact reti_ok X hr hlk rfl (dk rfl) (LwS.put hz S1 f1 ho rfl) (Nat.le_of_ble_eq_true rfl) (Nat.le_of_ble_eq_true rfl)
  · rintro E1 h1 ⟨hE, hst, e1⟩
    subst e1
    rcases hE with ⟨q1, rfl⟩ | ⟨q1, rfl⟩
    · refine catch_ok X E [] ⟨0, 13, 16, 19⟩ [] hT (fun z hz => by cases hz) (by decide) (by decide) clL_19 cstI (fun q => ?_)
      iterate 2 refine fst1_ok X (dk rfl) rfl ?_
      refine WRX.ret ?_
      exact reti_ok X hr hlk rfl (dk rfl) (LwS.thr (k := 1) (by decide) q1 hst C0 ho rfl) (Nat.le_of_ble_eq_true rfl) (Nat.le_of_ble_eq_true rfl)
    · exact absurd q1 (aCommon_n2 x1 x2 x3 st)
set_option maxHeartbeats 4000000 in
theorem w_forget {B Q P : Nat → Nat} (h : AH) (hl : la.stackTraces = false) (Y : LYO B Q) {ox : Nat} {kn : Int32} {st : ST} (C0 : StC B Q P ox kn h st) {oo : Nat} {v w : Value} (ho : h oo = some (9, [v, w])) (x1 : Int32) : CTH la D cA B0 pa yL_forget cL_forget 4 (some .int) [(0, 10, 13, 19)] (rmD 8 1 6) [.ref ox, .int x1, .ref oo] h (LwS B Q P ox kn oo (aForget x1 st) h) := by
  refine CTH_of (by decide +kernel) (Nat.le_of_ble_eq_true rfl) ?_
  intro p e s m args below meth c X E hr hlk hT
  have dk : ∀ {pc : Nat} {q : Instr × Nat}, lkd DL_forget pc = some q → decode cL_forget pc = .ok q := lkd_ok DL_forget_ok
  obtain ⟨fs, -, hb⟩ := C0.cell
  iterate 3 refine fst1_ok X (dk rfl) rfl ?_
  refine callVH_ok (ci := 8) (T := TX6) (N := 14) (av := [.int x1]) (r := [.ref oo]) X E (s6_forget h hl Y C0 x1) lkX6_forget mlL_56 lmX6_forget lpX6_forget ⟨Nat.le_of_ble_eq_true rfl, Nat.le_of_ble_eq_true rfl⟩ ⟨Nat.le_of_ble_eq_true rfl, Nat.le_of_ble_eq_true rfl⟩ rfl hb (Nat.le_of_ble_eq_true rfl) (dk rfl) ?_ ?_
  · rintro _ h1 ⟨hz, rfl, S1, f1⟩
    have ho1 := f1 _ _ ho rfl
    refine fst1_ok X (dk rfl) rfl ?_
    refine putO_ok X E (kf := 0) (ty := .long) fnL_13 (by decide) rfl rfl (by decide +kernel) rfl rfl (dk rfl) ho1 (Nat.le_of_ble_eq_true rfl) ?_
    refine br_ok X (dk rfl) rfl (show ((10 : Nat) : Int) + 6 = ((16 : Nat) : Int) from rfl) (fun _ => ?_) (fun q => absurd trivial q)
    refine fst1_ok X (dk rfl) rfl ?_
    refine WRX.ret ?_
    exact reti_ok X hr hlk rfl (dk rfl) (LwS.put hz S1 f1 ho rfl) (Nat.le_of_ble_eq_true rfl) (Nat.le_of_ble_eq_true rfl)
  · rintro E1 h1 ⟨hE, hst, e1⟩
    subst e1
    rcases hE with ⟨q1, rfl⟩ | ⟨q1, rfl⟩
    · refine catch_ok X E [] ⟨0, 10, 13, 19⟩ [] hT (fun z hz => by cases hz) (by decide) (by decide) clL_19 cstI (fun q => ?_)
      iterate 2 refine fst1_ok X (dk rfl) rfl ?_
      refine WRX.ret ?_
      exact reti_ok X hr hlk rfl (dk rfl) (LwS.thr (k := 1) (by decide) q1 hst C0 ho rfl) (Nat.le_of_ble_eq_true rfl) (Nat.le_of_ble_eq_true rfl)
    · exact absurd q1 (aForget_n2 x1 st)
set_option maxHeartbeats 4000000 in
theorem w_tell {B Q P : Nat → Nat} (h : AH) (hl : la.stackTraces = false) (Y : LYO B Q) {ox : Nat} {kn : Int32} {st : ST} (C0 : StC B Q P ox kn h st) {oo : Nat} {v w : Value} (ho : h oo = some (9, [v, w])) (x1 x2 x3 : Int32) : CTH la D cA B0 pa yL_tell cL_tell 6 (some .int) [(0, 13, 16, 19), (0, 13, 20, 21)] (rmD 8 3 18) [.ref ox, .int x1, .int x2, .int x3, .ref oo] h (LwS B Q P ox kn oo (aTell x1 x2 x3 st) h) := by
  refine CTH_of (by decide +kernel) (Nat.le_of_ble_eq_true rfl) ?_
  intro p e s m args below meth c X E hr hlk hT
  have dk : ∀ {pc : Nat} {q : Instr × Nat}, lkd DL_tell pc = some q → decode cL_tell pc = .ok q := lkd_ok DL_tell_ok
  obtain ⟨fs, -, hb⟩ := C0.cell
  iterate 5 refine fst1_ok X (dk rfl) rfl ?_
  refine callVH_ok (ci := 8) (T := TX6) (N := 14) (av := [.int x1, .int x2, .int x3]) (r := [.ref oo]) X E (s6_tell h hl Y C0 x1 x2 x3) lkX6_tell mlL_59 lmX6_tell lpX6_tell ⟨Nat.le_of_ble_eq_true rfl, Nat.le_of_ble_eq_true rfl⟩ ⟨Nat.le_of_ble_eq_true rfl, Nat.le_of_ble_eq_true rfl⟩ rfl hb (Nat.le_of_ble_eq_true rfl) (dk rfl) ?_ ?_
  · rintro _ h1 ⟨hz, rfl, S1, f1⟩
    have ho1 := f1 _ _ ho rfl
    refine fst1_ok X (dk rfl) rfl ?_
    refine putO_ok X E (kf := 0) (ty := .long) fnL_13 (by decide) rfl rfl (by decide +kernel) rfl rfl (dk rfl) ho1 (Nat.le_of_ble_eq_true rfl) ?_
    refine br_ok X (dk rfl) rfl (show ((13 : Nat) : Int) + 11 = ((24 : Nat) : Int) from rfl) (fun _ => ?_) (fun q => absurd trivial q)
    refine fst1_ok X (dk rfl) rfl ?_
    refine WRX.ret ?_
    exact reti_ok X hr hlk rfl (dk rfl) (LwS.put hz S1 f1 ho rfl) (Nat.le_of_ble_eq_true rfl) (Nat.le_of_ble_eq_true rfl)
  · rintro E1 h1 ⟨hE, hst, e1⟩
    subst e1
    rcases hE with ⟨q1, rfl⟩ | ⟨q1, rfl⟩
    · refine catch_ok X E [] ⟨0, 13, 16, 19⟩ [⟨0, 13, 20, 21⟩] hT (fun z hz => by cases hz) (by decide) (by decide) clL_19 cstI (fun q => ?_)
      iterate 2 refine fst1_ok X (dk rfl) rfl ?_
      refine WRX.ret ?_
      exact reti_ok X hr hlk rfl (dk rfl) (LwS.thr (k := 1) (by decide) q1 hst C0 ho rfl) (Nat.le_of_ble_eq_true rfl) (Nat.le_of_ble_eq_true rfl)
    · refine catch_ok X E [⟨0, 13, 16, 19⟩] ⟨0, 13, 20, 21⟩ [] hT (fun z hz => Or.inr (by rw [List.mem_singleton.mp hz]; exact ⟨by decide, ioobe, clL_19, E.2.2.2.1.2.2.2.2.2.2.2.2.1⟩)) (by decide) (by decide) clL_21 cstA (fun q => ?_)
      iterate 2 refine fst1_ok X (dk rfl) rfl ?_
      refine WRX.ret ?_
      exact reti_ok X hr hlk rfl (dk rfl) (LwS.thr (k := 2) (by decide) q1 hst C0 ho rfl) (Nat.le_of_ble_eq_true rfl) (Nat.le_of_ble_eq_true rfl)
set_option maxHeartbeats 4000000 in
theorem w_take {B Q P : Nat → Nat} (h : AH) (hl : la.stackTraces = false) (Y : LYO B Q) {ox : Nat} {kn : Int32} {st : ST} (C0 : StC B Q P ox kn h st) {oo : Nat} {v w : Value} (ho : h oo = some (9, [v, w])) (x1 x2 : Int32) : CTH la D cA B0 pa yL_take cL_take 5 (some .int) [(0, 11, 14, 19)] (rmD 8 2 12) [.ref ox, .int x1, .int x2, .ref oo] h (LwS B Q P ox kn oo (aTake x1 x2 st) h) := by
  refine CTH_of (by decide +kernel) (Nat.le_of_ble_eq_true rfl) ?_
  intro p e s m args below meth c X E hr hlk hT
  have dk : ∀ {pc : Nat} {q : Instr × Nat}, lkd DL_take pc = some q → decode cL_take pc = .ok q := lkd_ok DL_take_ok
  obtain ⟨fs, -, hb⟩ := C0.cell
  iterate 4 refine fst1_ok X (dk rfl) rfl ?_
  refine callVH_ok (ci := 8) (T := TX6) (N := 14) (av := [.int x1, .int x2]) (r := [.ref oo]) X E (s6_take h hl Y C0 x1 x2) lkX6_take mlL_62 lmX6_take lpX6_take ⟨Nat.le_of_ble_eq_true rfl, Nat.le_of_ble_eq_true rfl⟩ ⟨Nat.le_of_ble_eq_true rfl, Nat.le_of_ble_eq_true rfl⟩ rfl hb (Nat.le_of_ble_eq_true rfl) (dk rfl) ?_ ?_
  · rintro _ h1 ⟨hz, rfl, S1, f1⟩
    have ho1 := f1 _ _ ho rfl
    refine fst1_ok X (dk rfl) rfl ?_
    refine putO_ok X E (kf := 0) (ty := .long) fnL_13 (by decide) rfl rfl (by decide +kernel) rfl rfl (dk rfl) ho1 (Nat.le_of_ble_eq_true rfl) ?_
    refine br_ok X (dk rfl) rfl (show ((11 : Nat) : Int) + 7 = ((18 : Nat) : Int) from rfl) (fun _ => ?_) (fun q => absurd trivial q)
    refine fst1_ok X (dk rfl) rfl ?_
    refine WRX.ret ?_
    exact reti_ok X hr hlk rfl (dk rfl) (LwS.put hz S1 f1 ho rfl) (Nat.le_of_ble_eq_true rfl) (Nat.le_of_ble_eq_true rfl)
  · rintro E1 h1 ⟨hE, hst, e1⟩
    subst e1
    rcases hE with ⟨q1, rfl⟩ | ⟨q1, rfl⟩
    · refine catch_ok X E [] ⟨0, 11, 14, 19⟩ [] hT (fun z hz => by cases hz) (by decide) (by decide) clL_19 cstI (fun q => ?_)
      iterate 2 refine fst1_ok X (dk rfl) rfl ?_
      refine WRX.ret ?_
      exact reti_ok X hr hlk rfl (dk rfl) (LwS.thr (k := 1) (by decide) q1 hst C0 ho rfl) (Nat.le_of_ble_eq_true rfl) (Nat.le_of_ble_eq_true rfl)
    · exact absurd q1 (aTake_n2 x1 x2 st)
set_option maxHeartbeats 4000000 in
theorem w_behind {B Q P : Nat → Nat} (h : AH) (hl : la.stackTraces = false) (Y : LYO B Q) {ox : Nat} {kn : Int32} {st : ST} (C0 : StC B Q P ox kn h st) {oo : Nat} {v w : Value} (ho : h oo = some (9, [v, w])) (x1 x2 x3 : Int32) : CTH la D cA B0 pa yL_behind cL_behind 6 (some .int) [(0, 13, 16, 19)] (rmD 8 3 18) [.ref ox, .int x1, .int x2, .int x3, .ref oo] h (LwS B Q P ox kn oo (aBehind x1 x2 x3 st) h) := by
  refine CTH_of (by decide +kernel) (Nat.le_of_ble_eq_true rfl) ?_
  intro p e s m args below meth c X E hr hlk hT
  have dk : ∀ {pc : Nat} {q : Instr × Nat}, lkd DL_behind pc = some q → decode cL_behind pc = .ok q := lkd_ok DL_behind_ok
  obtain ⟨fs, -, hb⟩ := C0.cell
  iterate 5 refine fst1_ok X (dk rfl) rfl ?_
  refine callVH_ok (ci := 8) (T := TX6) (N := 14) (av := [.int x1, .int x2, .int x3]) (r := [.ref oo]) X E (s6_behind h hl Y C0 x1 x2 x3) lkX6_behind mlL_65 lmX6_behind lpX6_behind ⟨Nat.le_of_ble_eq_true rfl, Nat.le_of_ble_eq_true rfl⟩ ⟨Nat.le_of_ble_eq_true rfl, Nat.le_of_ble_eq_true rfl⟩ rfl hb (Nat.le_of_ble_eq_true rfl) (dk rfl) ?_ ?_
  · rintro _ h1 ⟨hz, rfl, S1, f1⟩
    have ho1 := f1 _ _ ho rfl
    refine fst1_ok X (dk rfl) rfl ?_
    refine putO_ok X E (kf := 0) (ty := .long) fnL_13 (by decide) rfl rfl (by decide +kernel) rfl rfl (dk rfl) ho1 (Nat.le_of_ble_eq_true rfl) ?_
    refine br_ok X (dk rfl) rfl (show ((13 : Nat) : Int) + 7 = ((20 : Nat) : Int) from rfl) (fun _ => ?_) (fun q => absurd trivial q)
    refine fst1_ok X (dk rfl) rfl ?_
    refine WRX.ret ?_
    exact reti_ok X hr hlk rfl (dk rfl) (LwS.put hz S1 f1 ho rfl) (Nat.le_of_ble_eq_true rfl) (Nat.le_of_ble_eq_true rfl)
  · rintro E1 h1 ⟨hE, hst, e1⟩
    subst e1
    rcases hE with ⟨q1, rfl⟩ | ⟨q1, rfl⟩
    · refine catch_ok X E [] ⟨0, 13, 16, 19⟩ [] hT (fun z hz => by cases hz) (by decide) (by decide) clL_19 cstI (fun q => ?_)
      iterate 2 refine fst1_ok X (dk rfl) rfl ?_
      refine WRX.ret ?_
      exact reti_ok X hr hlk rfl (dk rfl) (LwS.thr (k := 1) (by decide) q1 hst C0 ho rfl) (Nat.le_of_ble_eq_true rfl) (Nat.le_of_ble_eq_true rfl)
    · exact absurd q1 (aBehind_n2 x1 x2 x3 st)
set_option maxHeartbeats 4000000 in
theorem w_alike {B Q P : Nat → Nat} (h : AH) (hl : la.stackTraces = false) (Y : LYO B Q) {ox : Nat} {kn : Int32} {st : ST} (C0 : StC B Q P ox kn h st) {oo : Nat} {v w : Value} (ho : h oo = some (9, [v, w])) (x1 x2 x3 x4 : Int32) : CTH la D cA B0 pa yL_alike cL_alike 7 (some .int) [(0, 15, 18, 19), (0, 15, 22, 21)] (rmD 8 4 24) [.ref ox, .int x1, .int x2, .int x3, .int x4, .ref oo] h (LwS B Q P ox kn oo (aAlike x1 x2 x3 x4 st) h) := by
  refine CTH_of (by decide +kernel) (Nat.le_of_ble_eq_true rfl) ?_
  intro p e s m args below meth c X E hr hlk hT
  have dk : ∀ {pc : Nat} {q : Instr × Nat}, lkd DL_alike pc = some q → decode cL_alike pc = .ok q := lkd_ok DL_alike_ok
  obtain ⟨fs, -, hb⟩ := C0.cell
  iterate 6 refine fst1_ok X (dk rfl) rfl ?_
  refine callVH_ok (ci := 8) (T := TX6) (N := 14) (av := [.int x1, .int x2, .int x3, .int x4]) (r := [.ref oo]) X E (s6_alike h hl Y C0 x1 x2 x3 x4) lkX6_alike mlL_68 lmX6_alike lpX6_alike ⟨Nat.le_of_ble_eq_true rfl, Nat.le_of_ble_eq_true rfl⟩ ⟨Nat.le_of_ble_eq_true rfl, Nat.le_of_ble_eq_true rfl⟩ rfl hb (Nat.le_of_ble_eq_true rfl) (dk rfl) ?_ ?_
  · rintro _ h1 ⟨hz, rfl, S1, f1⟩
    have ho1 := f1 _ _ ho rfl
    refine fst1_ok X (dk rfl) rfl ?_
    refine putO_ok X E (kf := 0) (ty := .long) fnL_13 (by decide) rfl rfl (by decide +kernel) rfl rfl (dk rfl) ho1 (Nat.le_of_ble_eq_true rfl) ?_
    refine br_ok X (dk rfl) rfl (show ((15 : Nat) : Int) + 11 = ((26 : Nat) : Int) from rfl) (fun _ => ?_) (fun q => absurd trivial q)
    refine fst1_ok X (dk rfl) rfl ?_
    refine WRX.ret ?_
    exact reti_ok X hr hlk rfl (dk rfl) (LwS.put hz S1 f1 ho rfl) (Nat.le_of_ble_eq_true rfl) (Nat.le_of_ble_eq_true rfl)
  · rintro E1 h1 ⟨hE, hst, e1⟩
    subst e1
    rcases hE with ⟨q1, rfl⟩ | ⟨q1, rfl⟩
    · refine catch_ok X E [] ⟨0, 15, 18, 19⟩ [⟨0, 15, 22, 21⟩] hT (fun z hz => by cases hz) (by decide) (by decide) clL_19 cstI (fun q => ?_)
      iterate 2 refine fst1_ok X (dk rfl) rfl ?_
      refine WRX.ret ?_
      exact reti_ok X hr hlk rfl (dk rfl) (LwS.thr (k := 1) (by decide) q1 hst C0 ho rfl) (Nat.le_of_ble_eq_true rfl) (Nat.le_of_ble_eq_true rfl)
    · refine catch_ok X E [⟨0, 15, 18, 19⟩] ⟨0, 15, 22, 21⟩ [] hT (fun z hz => Or.inr (by rw [List.mem_singleton.mp hz]; exact ⟨by decide, ioobe, clL_19, E.2.2.2.1.2.2.2.2.2.2.2.2.1⟩)) (by decide) (by decide) clL_21 cstA (fun q => ?_)
      iterate 2 refine fst1_ok X (dk rfl) rfl ?_
      refine WRX.ret ?_
      exact reti_ok X hr hlk rfl (dk rfl) (LwS.thr (k := 2) (by decide) q1 hst C0 ho rfl) (Nat.le_of_ble_eq_true rfl) (Nat.le_of_ble_eq_true rfl)
set_option maxHeartbeats 4000000 in
theorem w_match {B Q P : Nat → Nat} (h : AH) (hl : la.stackTraces = false) (Y : LYO B Q) {ox : Nat} {kn : Int32} {st : ST} (C0 : StC B Q P ox kn h st) {oo : Nat} {v w : Value} (ho : h oo = some (9, [v, w])) (x1 x2 x3 : Int32) : CTH la D cA B0 pa yL_match cL_match 6 (some .int) [(0, 13, 16, 19)] (rmD 8 3 18) [.ref ox, .int x1, .int x2, .int x3, .ref oo] h (LwS B Q P ox kn oo (aMatch x1 x2 x3 st) h) := by
  refine CTH_of (by decide +kernel) (Nat.le_of_ble_eq_true rfl) ?_
  intro p e s m args below meth c X E hr hlk hT
  have dk : ∀ {pc : Nat} {q : Instr × Nat}, lkd DL_match pc = some q → decode cL_match pc = .ok q := lkd_ok DL_match_ok
  obtain ⟨fs, -, hb⟩ := C0.cell
  iterate 5 refine fst1_ok X (dk rfl) rfl ?_
  refine callVH_ok (ci := 8) (T := TX6) (N := 14) (av := [.int x1, .int x2, .int x3]) (r := [.ref oo]) X E (s6_match h hl Y C0 x1 x2 x3) lkX6_match mlL_72 lmX6_match lpX6_match ⟨Nat.le_of_ble_eq_true rfl, Nat.le_of_ble_eq_true rfl⟩ ⟨Nat.le_of_ble_eq_true rfl, Nat.le_of_ble_eq_true rfl⟩ rfl hb (Nat.le_of_ble_eq_true rfl) (dk rfl) ?_ ?_
  · rintro _ h1 ⟨hz, rfl, S1, f1⟩
    have ho1 := f1 _ _ ho rfl
    refine fst1_ok X (dk rfl) rfl ?_
    refine putO_ok X E (kf := 0) (ty := .long) fnL_13 (by decide) rfl rfl (by decide +kernel) rfl rfl (dk rfl) ho1 (Nat.le_of_ble_eq_true rfl) ?_
    refine br_ok X (dk rfl) rfl (show ((13 : Nat) : Int) + 7 = ((20 : Nat) : Int) from rfl) (fun _ => ?_) (fun q => absurd trivial q)
    refine fst1_ok X (dk rfl) rfl ?_
    refine WRX.ret ?_
    exact reti_ok X hr hlk rfl (dk rfl) (LwS.put hz S1 f1 ho rfl) (Nat.le_of_ble_eq_true rfl) (Nat.le_of_ble_eq_true rfl)
  · rintro E1 h1 ⟨hE, hst, e1⟩
    subst e1
    rcases hE with ⟨q1, rfl⟩ | ⟨q1, rfl⟩
    · refine catch_ok X E [] ⟨0, 13, 16, 19⟩ [] hT (fun z hz => by cases hz) (by decide) (by decide) clL_19 cstI (fun q => ?_)
      iterate 2 refine fst1_ok X (dk rfl) rfl ?_
      refine WRX.ret ?_
      exact reti_ok X hr hlk rfl (dk rfl) (LwS.thr (k := 1) (by decide) q1 hst C0 ho rfl) (Nat.le_of_ble_eq_true rfl) (Nat.le_of_ble_eq_true rfl)
    · exact absurd q1 (aMatch_n2 x1 x2 x3 st)
set_option maxHeartbeats 4000000 in
theorem w_text {B Q P : Nat → Nat} (h : AH) (hl : la.stackTraces = false) (Y : LYO B Q) {ox : Nat} {kn : Int32} {st : ST} (C0 : StC B Q P ox kn h st) {oo : Nat} {v w : Value} (ho : h oo = some (9, [v, w])) (x1 : Int32) : CTH la D cA B0 pa yL_text cL_text 4 (some .int) [(0, 9, 12, 19)] (rmD 8 157 46406) [.ref ox, .int x1, .ref oo] h (LwQ B Q P ox kn oo st h) := by
  refine CTH_of (by decide +kernel) (Nat.le_of_ble_eq_true rfl) ?_
  intro p e s m args below meth c X E hr hlk hT
  have dk : ∀ {pc : Nat} {q : Instr × Nat}, lkd DL_text pc = some q → decode cL_text pc = .ok q := lkd_ok DL_text_ok
  obtain ⟨fs, -, hb⟩ := C0.cell
  iterate 3 refine fst1_ok X (dk rfl) rfl ?_
  refine callVH_ok (ci := 8) (T := TX6) (N := 14) (av := [.int x1]) (r := [.ref oo]) X E (s6_text h hl Y C0 x1) lkX6_text mlL_75 lmX6_text lpX6_text ⟨Nat.le_of_ble_eq_true rfl, Nat.le_of_ble_eq_true rfl⟩ ⟨Nat.le_of_ble_eq_true rfl, Nat.le_of_ble_eq_true rfl⟩ rfl hb (Nat.le_of_ble_eq_true rfl) (dk rfl) ?_ ?_
  · rintro _ h1 ⟨⟨y, rfl⟩, S1, f1⟩
    have ho1 := f1 _ _ ho rfl
    refine putO_ok X E (kf := 1) (ty := .object "java/lang/String") fnL_79 (by decide) rfl rfl (by decide +kernel) rfl rfl (dk rfl) ho1 (Nat.le_of_ble_eq_true rfl) ?_
    refine br_ok X (dk rfl) rfl (show ((9 : Nat) : Int) + 6 = ((15 : Nat) : Int) from rfl) (fun _ => ?_) (fun q => absurd trivial q)
    refine fst1_ok X (dk rfl) rfl ?_
    refine WRX.ret ?_
    exact reti_ok X hr hlk rfl (dk rfl) (LwQ.put S1 f1 ho _ _ _) (Nat.le_of_ble_eq_true rfl) (Nat.le_of_ble_eq_true rfl)
  · rintro E1 h1 ⟨hE, hst, e1⟩
    subst e1
    rcases hE with ⟨q1, rfl⟩ | ⟨q1, rfl⟩
    · refine catch_ok X E [] ⟨0, 9, 12, 19⟩ [] hT (fun z hz => by cases hz) (by decide) (by decide) clL_19 cstI (fun q => ?_)
      iterate 2 refine fst1_ok X (dk rfl) rfl ?_
      refine WRX.ret ?_
      exact reti_ok X hr hlk rfl (dk rfl) (LwQ.of C0 (fun a c e _ => e) ho _) (Nat.le_of_ble_eq_true rfl) (Nat.le_of_ble_eq_true rfl)
    · exact absurd q1 (aSize_n2 x1 st)
set_option maxHeartbeats 4000000 in
theorem w_size {B Q P : Nat → Nat} (h : AH) (hl : la.stackTraces = false) (Y : LYO B Q) {ox : Nat} {kn : Int32} {st : ST} (C0 : StC B Q P ox kn h st) {oo : Nat} {v w : Value} (ho : h oo = some (9, [v, w])) (x1 : Int32) : CTH la D cA B0 pa yL_size cL_size 4 (some .int) [(0, 10, 13, 19)] (rmD 8 1 6) [.ref ox, .int x1, .ref oo] h (LwS B Q P ox kn oo (aSize x1 st) h) := by
  refine CTH_of (by decide +kernel) (Nat.le_of_ble_eq_true rfl) ?_
  intro p e s m args below meth c X E hr hlk hT
  have dk : ∀ {pc : Nat} {q : Instr × Nat}, lkd DL_size pc = some q → decode cL_size pc = .ok q := lkd_ok DL_size_ok
  obtain ⟨fs, -, hb⟩ := C0.cell
  iterate 3 refine fst1_ok X (dk rfl) rfl ?_
  refine callVH_ok (ci := 8) (T := TX6) (N := 14) (av := [.int x1]) (r := [.ref oo]) X E (s6_size h hl Y C0 x1) lkX6_size mlL_83 lmX6_size lpX6_size ⟨Nat.le_of_ble_eq_true rfl, Nat.le_of_ble_eq_true rfl⟩ ⟨Nat.le_of_ble_eq_true rfl, Nat.le_of_ble_eq_true rfl⟩ rfl hb (Nat.le_of_ble_eq_true rfl) (dk rfl) ?_ ?_
  · rintro _ h1 ⟨hz, rfl, S1, f1⟩
    have ho1 := f1 _ _ ho rfl
    refine fst1_ok X (dk rfl) rfl ?_
    refine putO_ok X E (kf := 0) (ty := .long) fnL_13 (by decide) rfl rfl (by decide +kernel) rfl rfl (dk rfl) ho1 (Nat.le_of_ble_eq_true rfl) ?_
    refine br_ok X (dk rfl) rfl (show ((10 : Nat) : Int) + 6 = ((16 : Nat) : Int) from rfl) (fun _ => ?_) (fun q => absurd trivial q)
    refine fst1_ok X (dk rfl) rfl ?_
    refine WRX.ret ?_
    exact reti_ok X hr hlk rfl (dk rfl) (LwS.put hz S1 f1 ho rfl) (Nat.le_of_ble_eq_true rfl) (Nat.le_of_ble_eq_true rfl)
  · rintro E1 h1 ⟨hE, hst, e1⟩
    subst e1
    rcases hE with ⟨q1, rfl⟩ | ⟨q1, rfl⟩
    · refine catch_ok X E [] ⟨0, 10, 13, 19⟩ [] hT (fun z hz => by cases hz) (by decide) (by decide) clL_19 cstI (fun q => ?_)
      iterate 2 refine fst1_ok X (dk rfl) rfl ?_
      refine WRX.ret ?_
      exact reti_ok X hr hlk rfl (dk rfl) (LwS.thr (k := 1) (by decide) q1 hst C0 ho rfl) (Nat.le_of_ble_eq_true rfl) (Nat.le_of_ble_eq_true rfl)
    · exact absurd q1 (aSize_n2 x1 st)
set_option maxHeartbeats 4000000 in
theorem w_depth {B Q P : Nat → Nat} (h : AH) (hl : la.stackTraces = false) (Y : LYO B Q) {ox : Nat} {kn : Int32} {st : ST} (C0 : StC B Q P ox kn h st) {oo : Nat} {v w : Value} (ho : h oo = some (9, [v, w])) (x1 : Int32) : CTH la D cA B0 pa yL_depth cL_depth 4 (some .int) [(0, 10, 13, 19)] (rmD 8 1 6) [.ref ox, .int x1, .ref oo] h (LwQ B Q P ox kn oo st h) := by
  refine CTH_of (by decide +kernel) (Nat.le_of_ble_eq_true rfl) ?_
  intro p e s m args below meth c X E hr hlk hT
  have dk : ∀ {pc : Nat} {q : Instr × Nat}, lkd DL_depth pc = some q → decode cL_depth pc = .ok q := lkd_ok DL_depth_ok
  obtain ⟨fs, -, hb⟩ := C0.cell
  iterate 3 refine fst1_ok X (dk rfl) rfl ?_
  obtain ⟨I, T0, KK⟩ := FZ_st Y C0
  refine callVH_ok (ci := 8) (T := TX6) (N := 14) (av := [.int x1]) (r := [.ref oo]) X E (FZ.c6_depth h hl I T0 x1) lkX6_depth mlL_86 lmX6_depth lpX6_depth ⟨Nat.le_of_ble_eq_true rfl, Nat.le_of_ble_eq_true rfl⟩ ⟨Nat.le_of_ble_eq_true rfl, Nat.le_of_ble_eq_true rfl⟩ rfl hb (Nat.le_of_ble_eq_true rfl) (dk rfl) ?_ ?_
  · rintro _ h1 ⟨⟨y, rfl⟩, J⟩
    obtain ⟨S1, f1⟩ := KK J.1
    have ho1 := f1 _ _ ho rfl
    refine fst1_ok X (dk rfl) rfl ?_
    refine putO_ok X E (kf := 0) (ty := .long) fnL_13 (by decide) rfl rfl (by decide +kernel) rfl rfl (dk rfl) ho1 (Nat.le_of_ble_eq_true rfl) ?_
    refine br_ok X (dk rfl) rfl (show ((10 : Nat) : Int) + 6 = ((16 : Nat) : Int) from rfl) (fun _ => ?_) (fun q => absurd trivial q)
    refine fst1_ok X (dk rfl) rfl ?_
    refine WRX.ret ?_
    exact reti_ok X hr hlk rfl (dk rfl) (LwQ.put S1 f1 ho _ _ _) (Nat.le_of_ble_eq_true rfl) (Nat.le_of_ble_eq_true rfl)
  · rintro E1 h1 ⟨hS, J⟩
    obtain ⟨S1, f1⟩ := KK J.1
    have hE : E1 = ioobe := by simpa using hS
    subst hE
    refine catch_ok X E [] ⟨0, 10, 13, 19⟩ [] hT (fun z hz => by cases hz) (by decide) (by decide) clL_19 cstI (fun q => ?_)
    iterate 2 refine fst1_ok X (dk rfl) rfl ?_
    refine WRX.ret ?_
    exact reti_ok X hr hlk rfl (dk rfl) (LwQ.of S1 f1 ho _) (Nat.le_of_ble_eq_true rfl) (Nat.le_of_ble_eq_true rfl)
set_option maxHeartbeats 4000000 in
theorem w_shared {B Q P : Nat → Nat} (h : AH) (hl : la.stackTraces = false) (Y : LYO B Q) {ox : Nat} {kn : Int32} {st : ST} (C0 : StC B Q P ox kn h st) {oo : Nat} {v w : Value} (ho : h oo = some (9, [v, w])) (x1 : Int32) : CTH la D cA B0 pa yL_shared cL_shared 4 (some .int) [(0, 10, 13, 19)] (rmD 8 1 6) [.ref ox, .int x1, .ref oo] h (LwQ B Q P ox kn oo st h) := by
  refine CTH_of (by decide +kernel) (Nat.le_of_ble_eq_true rfl) ?_
  intro p e s m args below meth c X E hr hlk hT
  have dk : ∀ {pc : Nat} {q : Instr × Nat}, lkd DL_shared pc = some q → decode cL_shared pc = .ok q := lkd_ok DL_shared_ok
  obtain ⟨fs, -, hb⟩ := C0.cell
  iterate 3 refine fst1_ok X (dk rfl) rfl ?_
  obtain ⟨I, T0, KK⟩ := FZ_st Y C0
  refine callVH_ok (ci := 8) (T := TX6) (N := 14) (av := [.int x1]) (r := [.ref oo]) X E (FZ.c6_shared h hl I T0 x1) lkX6_shared mlL_89 lmX6_shared lpX6_shared ⟨Nat.le_of_ble_eq_true rfl, Nat.le_of_ble_eq_true rfl⟩ ⟨Nat.le_of_ble_eq_true rfl, Nat.le_of_ble_eq_true rfl⟩ rfl hb (Nat.le_of_ble_eq_true rfl) (dk rfl) ?_ ?_
  · rintro _ h1 ⟨⟨y, rfl⟩, J⟩
    obtain ⟨S1, f1⟩ := KK J.1
    have ho1 := f1 _ _ ho rfl
    refine fst1_ok X (dk rfl) rfl ?_
    refine putO_ok X E (kf := 0) (ty := .long) fnL_13 (by decide) rfl rfl (by decide +kernel) rfl rfl (dk rfl) ho1 (Nat.le_of_ble_eq_true rfl) ?_
    refine br_ok X (dk rfl) rfl (show ((10 : Nat) : Int) + 6 = ((16 : Nat) : Int) from rfl) (fun _ => ?_) (fun q => absurd trivial q)
    refine fst1_ok X (dk rfl) rfl ?_
    refine WRX.ret ?_
    exact reti_ok X hr hlk rfl (dk rfl) (LwQ.put S1 f1 ho _ _ _) (Nat.le_of_ble_eq_true rfl) (Nat.le_of_ble_eq_true rfl)
  · rintro E1 h1 ⟨hS, J⟩
    obtain ⟨S1, f1⟩ := KK J.1
    have hE : E1 = ioobe := by simpa using hS
    subst hE
    refine catch_ok X E [] ⟨0, 10, 13, 19⟩ [] hT (fun z hz => by cases hz) (by decide) (by decide) clL_19 cstI (fun q => ?_)
    iterate 2 refine fst1_ok X (dk rfl) rfl ?_
    refine WRX.ret ?_
    exact reti_ok X hr hlk rfl (dk rfl) (LwQ.of S1 f1 ho _) (Nat.le_of_ble_eq_true rfl) (Nat.le_of_ble_eq_true rfl)
set_option maxHeartbeats 4000000 in
theorem w_letter {B Q P : Nat → Nat} (h : AH) (hl : la.stackTraces = false) (Y : LYO B Q) {ox : Nat} {kn : Int32} {st : ST} (C0 : StC B Q P ox kn h st) {oo : Nat} {v w : Value} (ho : h oo = some (9, [v, w])) (x1 x2 : Int32) : CTH la D cA B0 pa yL_letter cL_letter 5 (some .int) [(0, 11, 14, 19)] (rmD 8 1 6) [.ref ox, .int x1, .int x2, .ref oo] h (LwQ B Q P ox kn oo st h) := by
  refine CTH_of (by decide +kernel) (Nat.le_of_ble_eq_true rfl) ?_
  intro p e s m args below meth c X E hr hlk hT
  have dk : ∀ {pc : Nat} {q : Instr × Nat}, lkd DL_letter pc = some q → decode cL_letter pc = .ok q := lkd_ok DL_letter_ok
  obtain ⟨fs, -, hb⟩ := C0.cell
  iterate 4 refine fst1_ok X (dk rfl) rfl ?_
  obtain ⟨I, T0, KK⟩ := FZ_st Y C0
  refine callVH_ok (ci := 8) (T := TX6) (N := 14) (av := [.int x1, .int x2]) (r := [.ref oo]) X E (FZ.c6_letter h hl I T0 x1 x2) lkX6_letter mlL_92 lmX6_letter lpX6_letter ⟨Nat.le_of_ble_eq_true rfl, Nat.le_of_ble_eq_true rfl⟩ ⟨Nat.le_of_ble_eq_true rfl, Nat.le_of_ble_eq_true rfl⟩ rfl hb (Nat.le_of_ble_eq_true rfl) (dk rfl) ?_ ?_
  · rintro _ h1 ⟨⟨y, rfl⟩, J⟩
    obtain ⟨S1, f1⟩ := KK J.1
    have ho1 := f1 _ _ ho rfl
    refine fst1_ok X (dk rfl) rfl ?_
    refine putO_ok X E (kf := 0) (ty := .long) fnL_13 (by decide) rfl rfl (by decide +kernel) rfl rfl (dk rfl) ho1 (Nat.le_of_ble_eq_true rfl) ?_
    refine br_ok X (dk rfl) rfl (show ((11 : Nat) : Int) + 7 = ((18 : Nat) : Int) from rfl) (fun _ => ?_) (fun q => absurd trivial q)
    refine fst1_ok X (dk rfl) rfl ?_
    refine WRX.ret ?_
    exact reti_ok X hr hlk rfl (dk rfl) (LwQ.put S1 f1 ho _ _ _) (Nat.le_of_ble_eq_true rfl) (Nat.le_of_ble_eq_true rfl)
  · rintro E1 h1 ⟨hS, J⟩
    obtain ⟨S1, f1⟩ := KK J.1
    have hE : E1 = ioobe := by simpa using hS
    subst hE
    refine catch_ok X E [] ⟨0, 11, 14, 19⟩ [] hT (fun z hz => by cases hz) (by decide) (by decide) clL_19 cstI (fun q => ?_)
    iterate 2 refine fst1_ok X (dk rfl) rfl ?_
    refine WRX.ret ?_
    exact reti_ok X hr hlk rfl (dk rfl) (LwQ.of S1 f1 ho _) (Nat.le_of_ble_eq_true rfl) (Nat.le_of_ble_eq_true rfl)
set_option maxHeartbeats 4000000 in
theorem w_sizeAt {B Q P : Nat → Nat} (h : AH) (hl : la.stackTraces = false) (Y : LYO B Q) {ox : Nat} {kn : Int32} {st : ST} (C0 : StC B Q P ox kn h st) {oo : Nat} {v w : Value} (ho : h oo = some (9, [v, w])) (x1 x2 : Int32) : CTH la D cA B0 pa yL_sizeAt cL_sizeAt 5 (some .int) [(0, 11, 14, 19)] (rmD 8 1 6) [.ref ox, .int x1, .int x2, .ref oo] h (LwQ B Q P ox kn oo st h) := by
  refine CTH_of (by decide +kernel) (Nat.le_of_ble_eq_true rfl) ?_
  intro p e s m args below meth c X E hr hlk hT
  have dk : ∀ {pc : Nat} {q : Instr × Nat}, lkd DL_sizeAt pc = some q → decode cL_sizeAt pc = .ok q := lkd_ok DL_sizeAt_ok
  obtain ⟨fs, -, hb⟩ := C0.cell
  iterate 4 refine fst1_ok X (dk rfl) rfl ?_
  obtain ⟨I, T0, KK⟩ := FZ_st Y C0
  refine callVH_ok (ci := 8) (T := TX6) (N := 14) (av := [.int x1, .int x2]) (r := [.ref oo]) X E (FZ.c6_sizeAt h hl I T0 x1 x2) lkX6_sizeAt mlL_95 lmX6_sizeAt lpX6_sizeAt ⟨Nat.le_of_ble_eq_true rfl, Nat.le_of_ble_eq_true rfl⟩ ⟨Nat.le_of_ble_eq_true rfl, Nat.le_of_ble_eq_true rfl⟩ rfl hb (Nat.le_of_ble_eq_true rfl) (dk rfl) ?_ ?_
  · rintro _ h1 ⟨⟨y, rfl⟩, J⟩
    obtain ⟨S1, f1⟩ := KK J.1
    have ho1 := f1 _ _ ho rfl
    refine fst1_ok X (dk rfl) rfl ?_
    refine putO_ok X E (kf := 0) (ty := .long) fnL_13 (by decide) rfl rfl (by decide +kernel) rfl rfl (dk rfl) ho1 (Nat.le_of_ble_eq_true rfl) ?_
    refine br_ok X (dk rfl) rfl (show ((11 : Nat) : Int) + 7 = ((18 : Nat) : Int) from rfl) (fun _ => ?_) (fun q => absurd trivial q)
    refine fst1_ok X (dk rfl) rfl ?_
    refine WRX.ret ?_
    exact reti_ok X hr hlk rfl (dk rfl) (LwQ.put S1 f1 ho _ _ _) (Nat.le_of_ble_eq_true rfl) (Nat.le_of_ble_eq_true rfl)
  · rintro E1 h1 ⟨hS, J⟩
    obtain ⟨S1, f1⟩ := KK J.1
    have hE : E1 = ioobe := by simpa using hS
    subst hE
    refine catch_ok X E [] ⟨0, 11, 14, 19⟩ [] hT (fun z hz => by cases hz) (by decide) (by decide) clL_19 cstI (fun q => ?_)
    iterate 2 refine fst1_ok X (dk rfl) rfl ?_
    refine WRX.ret ?_
    exact reti_ok X hr hlk rfl (dk rfl) (LwQ.of S1 f1 ho _) (Nat.le_of_ble_eq_true rfl) (Nat.le_of_ble_eq_true rfl)
set_option maxHeartbeats 4000000 in
theorem w_count {B Q P : Nat → Nat} (h : AH) (hl : la.stackTraces = false) (Y : LYO B Q) {ox : Nat} {kn : Int32} {st : ST} (C0 : StC B Q P ox kn h st) {oo : Nat} {v w : Value} (ho : h oo = some (9, [v, w])) (x1 x2 : Int32) : CTH la D cA B0 pa yL_count cL_count 5 (some .int) [(0, 11, 14, 19), (0, 11, 18, 21)] (rmD 8 2 12) [.ref ox, .int x1, .int x2, .ref oo] h (LwQ B Q P ox kn oo st h) := by
  refine CTH_of (by decide +kernel) (Nat.le_of_ble_eq_true rfl) ?_
  intro p e s m args below meth c X E hr hlk hT
  have dk : ∀ {pc : Nat} {q : Instr × Nat}, lkd DL_count pc = some q → decode cL_count pc = .ok q := lkd_ok DL_count_ok
  obtain ⟨fs, -, hb⟩ := C0.cell
  iterate 4 refine fst1_ok X (dk rfl) rfl ?_
  obtain ⟨I, T0, KK⟩ := FZ_st Y C0
  refine callVH_ok (ci := 8) (T := TX6) (N := 14) (av := [.int x1, .int x2]) (r := [.ref oo]) X E (FZ.c6_count h hl I T0 x1 x2) lkX6_count mlL_98 lmX6_count lpX6_count ⟨Nat.le_of_ble_eq_true rfl, Nat.le_of_ble_eq_true rfl⟩ ⟨Nat.le_of_ble_eq_true rfl, Nat.le_of_ble_eq_true rfl⟩ rfl hb (Nat.le_of_ble_eq_true rfl) (dk rfl) ?_ ?_
  · rintro _ h1 ⟨⟨y, rfl⟩, J⟩
    obtain ⟨S1, f1⟩ := KK J.1
    have ho1 := f1 _ _ ho rfl
    refine fst1_ok X (dk rfl) rfl ?_
    refine putO_ok X E (kf := 0) (ty := .long) fnL_13 (by decide) rfl rfl (by decide +kernel) rfl rfl (dk rfl) ho1 (Nat.le_of_ble_eq_true rfl) ?_
    refine br_ok X (dk rfl) rfl (show ((11 : Nat) : Int) + 11 = ((22 : Nat) : Int) from rfl) (fun _ => ?_) (fun q => absurd trivial q)
    refine fst1_ok X (dk rfl) rfl ?_
    refine WRX.ret ?_
    exact reti_ok X hr hlk rfl (dk rfl) (LwQ.put S1 f1 ho _ _ _) (Nat.le_of_ble_eq_true rfl) (Nat.le_of_ble_eq_true rfl)
  · rintro E1 h1 ⟨hS, J⟩
    obtain ⟨S1, f1⟩ := KK J.1
    have hE : E1 = ioobe ∨ E1 = iae := by simpa using hS
    rcases hE with rfl | rfl
    · refine catch_ok X E [] ⟨0, 11, 14, 19⟩ [⟨0, 11, 18, 21⟩] hT (fun z hz => by cases hz) (by decide) (by decide) clL_19 cstI (fun q => ?_)
      iterate 2 refine fst1_ok X (dk rfl) rfl ?_
      refine WRX.ret ?_
      exact reti_ok X hr hlk rfl (dk rfl) (LwQ.of S1 f1 ho _) (Nat.le_of_ble_eq_true rfl) (Nat.le_of_ble_eq_true rfl)
    · refine catch_ok X E [⟨0, 11, 14, 19⟩] ⟨0, 11, 18, 21⟩ [] hT (fun z hz => Or.inr (by rw [List.mem_singleton.mp hz]; exact ⟨by decide, ioobe, clL_19, E.2.2.2.1.2.2.2.2.2.2.2.2.1⟩)) (by decide) (by decide) clL_21 cstA (fun q => ?_)
      iterate 2 refine fst1_ok X (dk rfl) rfl ?_
      refine WRX.ret ?_
      exact reti_ok X hr hlk rfl (dk rfl) (LwQ.of S1 f1 ho _) (Nat.le_of_ble_eq_true rfl) (Nat.le_of_ble_eq_true rfl)
set_option maxHeartbeats 4000000 in
theorem w_names {B Q P : Nat → Nat} (h : AH) (hl : la.stackTraces = false) (Y : LYO B Q) {ox : Nat} {kn : Int32} {st : ST} (C0 : StC B Q P ox kn h st) {oo : Nat} {v w : Value} (ho : h oo = some (9, [v, w])) (x1 : Int32) : CTH la D cA B0 pa yL_names cL_names 4 (some .int) [(0, 10, 13, 19)] (rmD 8 1 6) [.ref ox, .int x1, .ref oo] h (LwQ B Q P ox kn oo st h) := by
  refine CTH_of (by decide +kernel) (Nat.le_of_ble_eq_true rfl) ?_
  intro p e s m args below meth c X E hr hlk hT
  have dk : ∀ {pc : Nat} {q : Instr × Nat}, lkd DL_names pc = some q → decode cL_names pc = .ok q := lkd_ok DL_names_ok
  obtain ⟨fs, -, hb⟩ := C0.cell
  iterate 3 refine fst1_ok X (dk rfl) rfl ?_
  obtain ⟨I, T0, KK⟩ := FZ_st Y C0
  refine callVH_ok (ci := 8) (T := TX6) (N := 14) (av := [.int x1]) (r := [.ref oo]) X E (FZ.c6_names h hl I T0 x1) lkX6_names mlL_101 lmX6_names lpX6_names ⟨Nat.le_of_ble_eq_true rfl, Nat.le_of_ble_eq_true rfl⟩ ⟨Nat.le_of_ble_eq_true rfl, Nat.le_of_ble_eq_true rfl⟩ rfl hb (Nat.le_of_ble_eq_true rfl) (dk rfl) ?_ ?_
  · rintro _ h1 ⟨⟨y, rfl⟩, J⟩
    obtain ⟨S1, f1⟩ := KK J.1
    have ho1 := f1 _ _ ho rfl
    refine fst1_ok X (dk rfl) rfl ?_
    refine putO_ok X E (kf := 0) (ty := .long) fnL_13 (by decide) rfl rfl (by decide +kernel) rfl rfl (dk rfl) ho1 (Nat.le_of_ble_eq_true rfl) ?_
    refine br_ok X (dk rfl) rfl (show ((10 : Nat) : Int) + 6 = ((16 : Nat) : Int) from rfl) (fun _ => ?_) (fun q => absurd trivial q)
    refine fst1_ok X (dk rfl) rfl ?_
    refine WRX.ret ?_
    exact reti_ok X hr hlk rfl (dk rfl) (LwQ.put S1 f1 ho _ _ _) (Nat.le_of_ble_eq_true rfl) (Nat.le_of_ble_eq_true rfl)
  · rintro E1 h1 ⟨hS, J⟩
    obtain ⟨S1, f1⟩ := KK J.1
    have hE : E1 = ioobe := by simpa using hS
    subst hE
    refine catch_ok X E [] ⟨0, 10, 13, 19⟩ [] hT (fun z hz => by cases hz) (by decide) (by decide) clL_19 cstI (fun q => ?_)
    iterate 2 refine fst1_ok X (dk rfl) rfl ?_
    refine WRX.ret ?_
    exact reti_ok X hr hlk rfl (dk rfl) (LwQ.of S1 f1 ho _) (Nat.le_of_ble_eq_true rfl) (Nat.le_of_ble_eq_true rfl)
set_option maxHeartbeats 4000000 in
theorem w_find {B Q P : Nat → Nat} (h : AH) (hl : la.stackTraces = false) (Y : LYO B Q) {ox : Nat} {kn : Int32} {st : ST} (C0 : StC B Q P ox kn h st) {oo : Nat} {v w : Value} (ho : h oo = some (9, [v, w])) (x1 x2 : Int32) : CTH la D cA B0 pa yL_find cL_find 5 (some .int) [(0, 11, 14, 19)] (rmD 8 2 12) [.ref ox, .int x1, .int x2, .ref oo] h (LwQ B Q P ox kn oo st h) := by
  refine CTH_of (by decide +kernel) (Nat.le_of_ble_eq_true rfl) ?_
  intro p e s m args below meth c X E hr hlk hT
  have dk : ∀ {pc : Nat} {q : Instr × Nat}, lkd DL_find pc = some q → decode cL_find pc = .ok q := lkd_ok DL_find_ok
  obtain ⟨fs, -, hb⟩ := C0.cell
  iterate 4 refine fst1_ok X (dk rfl) rfl ?_
  obtain ⟨I, T0, KK⟩ := FZ_st Y C0
  refine callVH_ok (ci := 8) (T := TX6) (N := 14) (av := [.int x1, .int x2]) (r := [.ref oo]) X E (FZ.c6_find h hl I T0 x1 x2) lkX6_find mlL_104 lmX6_find lpX6_find ⟨Nat.le_of_ble_eq_true rfl, Nat.le_of_ble_eq_true rfl⟩ ⟨Nat.le_of_ble_eq_true rfl, Nat.le_of_ble_eq_true rfl⟩ rfl hb (Nat.le_of_ble_eq_true rfl) (dk rfl) ?_ ?_
  · rintro _ h1 ⟨⟨y, rfl⟩, J⟩
    obtain ⟨S1, f1⟩ := KK J.1
    have ho1 := f1 _ _ ho rfl
    refine fst1_ok X (dk rfl) rfl ?_
    refine putO_ok X E (kf := 0) (ty := .long) fnL_13 (by decide) rfl rfl (by decide +kernel) rfl rfl (dk rfl) ho1 (Nat.le_of_ble_eq_true rfl) ?_
    refine br_ok X (dk rfl) rfl (show ((11 : Nat) : Int) + 7 = ((18 : Nat) : Int) from rfl) (fun _ => ?_) (fun q => absurd trivial q)
    refine fst1_ok X (dk rfl) rfl ?_
    refine WRX.ret ?_
    exact reti_ok X hr hlk rfl (dk rfl) (LwQ.put S1 f1 ho _ _ _) (Nat.le_of_ble_eq_true rfl) (Nat.le_of_ble_eq_true rfl)
  · rintro E1 h1 ⟨hS, J⟩
    obtain ⟨S1, f1⟩ := KK J.1
    have hE : E1 = ioobe := by simpa using hS
    subst hE
    refine catch_ok X E [] ⟨0, 11, 14, 19⟩ [] hT (fun z hz => by cases hz) (by decide) (by decide) clL_19 cstI (fun q => ?_)
    iterate 2 refine fst1_ok X (dk rfl) rfl ?_
    refine WRX.ret ?_
    exact reti_ok X hr hlk rfl (dk rfl) (LwQ.of S1 f1 ho _) (Nat.le_of_ble_eq_true rfl) (Nat.le_of_ble_eq_true rfl)
set_option maxHeartbeats 4000000 in
theorem w_differ {B Q P : Nat → Nat} (h : AH) (hl : la.stackTraces = false) (Y : LYO B Q) {ox : Nat} {kn : Int32} {st : ST} (C0 : StC B Q P ox kn h st) {oo : Nat} {v w : Value} (ho : h oo = some (9, [v, w])) (x1 x2 : Int32) : CTH la D cA B0 pa yL_differ cL_differ 5 (some .int) [(0, 11, 14, 19)] (rmD 8 2 12) [.ref ox, .int x1, .int x2, .ref oo] h (LwQ B Q P ox kn oo st h) := by
  refine CTH_of (by decide +kernel) (Nat.le_of_ble_eq_true rfl) ?_
  intro p e s m args below meth c X E hr hlk hT
  have dk : ∀ {pc : Nat} {q : Instr × Nat}, lkd DL_differ pc = some q → decode cL_differ pc = .ok q := lkd_ok DL_differ_ok
  obtain ⟨fs, -, hb⟩ := C0.cell
  iterate 4 refine fst1_ok X (dk rfl) rfl ?_
  obtain ⟨I, T0, KK⟩ := FZ_st Y C0
  refine callVH_ok (ci := 8) (T := TX6) (N := 14) (av := [.int x1, .int x2]) (r := [.ref oo]) X E (FZ.c6_differ h hl I T0 x1 x2) lkX6_differ mlL_107 lmX6_differ lpX6_differ ⟨Nat.le_of_ble_eq_true rfl, Nat.le_of_ble_eq_true rfl⟩ ⟨Nat.le_of_ble_eq_true rfl, Nat.le_of_ble_eq_true rfl⟩ rfl hb (Nat.le_of_ble_eq_true rfl) (dk rfl) ?_ ?_
  · rintro _ h1 ⟨⟨y, rfl⟩, J⟩
    obtain ⟨S1, f1⟩ := KK J.1
    have ho1 := f1 _ _ ho rfl
    refine fst1_ok X (dk rfl) rfl ?_
    refine putO_ok X E (kf := 0) (ty := .long) fnL_13 (by decide) rfl rfl (by decide +kernel) rfl rfl (dk rfl) ho1 (Nat.le_of_ble_eq_true rfl) ?_
    refine br_ok X (dk rfl) rfl (show ((11 : Nat) : Int) + 7 = ((18 : Nat) : Int) from rfl) (fun _ => ?_) (fun q => absurd trivial q)
    refine fst1_ok X (dk rfl) rfl ?_
    refine WRX.ret ?_
    exact reti_ok X hr hlk rfl (dk rfl) (LwQ.put S1 f1 ho _ _ _) (Nat.le_of_ble_eq_true rfl) (Nat.le_of_ble_eq_true rfl)
  · rintro E1 h1 ⟨hS, J⟩
    obtain ⟨S1, f1⟩ := KK J.1
    have hE : E1 = ioobe := by simpa using hS
    subst hE
    refine catch_ok X E [] ⟨0, 11, 14, 19⟩ [] hT (fun z hz => by cases hz) (by decide) (by decide) clL_19 cstI (fun q => ?_)
    iterate 2 refine fst1_ok X (dk rfl) rfl ?_
    refine WRX.ret ?_
    exact reti_ok X hr hlk rfl (dk rfl) (LwQ.of S1 f1 ho _) (Nat.le_of_ble_eq_true rfl) (Nat.le_of_ble_eq_true rfl)
set_option maxHeartbeats 4000000 in
theorem w_is {B Q P : Nat → Nat} (h : AH) (hl : la.stackTraces = false) (Y : LYO B Q) {ox : Nat} {kn : Int32} {st : ST} (C0 : StC B Q P ox kn h st) {oo : Nat} {v w : Value} (ho : h oo = some (9, [v, w])) (x1 x2 x3 : Int32) : CTH la D cA B0 pa yL_is cL_is 6 (some .int) [(0, 20, 23, 19), (0, 20, 27, 21)] (rmD 8 3 18) [.ref ox, .int x1, .int x2, .int x3, .ref oo] h (LwQ B Q P ox kn oo st h) := by
  refine CTH_of (by decide +kernel) (Nat.le_of_ble_eq_true rfl) ?_
  intro p e s m args below meth c X E hr hlk hT
  have dk : ∀ {pc : Nat} {q : Instr × Nat}, lkd DL_is pc = some q → decode cL_is pc = .ok q := lkd_ok DL_is_ok
  obtain ⟨fs, -, hb⟩ := C0.cell
  iterate 5 refine fst1_ok X (dk rfl) rfl ?_
  obtain ⟨I, T0, KK⟩ := FZ_st Y C0
  refine callVH_ok (ci := 8) (T := TX6) (N := 14) (av := [.int x1, .int x2, .int x3]) (r := [.ref oo]) X E (FZ.c6_is h hl I T0 x1 x2 x3) lkX6_is mlL_110 lmX6_is lpX6_is ⟨Nat.le_of_ble_eq_true rfl, Nat.le_of_ble_eq_true rfl⟩ ⟨Nat.le_of_ble_eq_true rfl, Nat.le_of_ble_eq_true rfl⟩ rfl hb (Nat.le_of_ble_eq_true rfl) (dk rfl) ?_ ?_
  · rintro _ h1 ⟨⟨y, rfl⟩, J⟩
    obtain ⟨S1, f1⟩ := KK J.1
    have ho1 := f1 _ _ ho rfl
    cases y with
    | false =>
      refine br_ok X (dk rfl) rfl (show ((9 : Nat) : Int) + 7 = ((16 : Nat) : Int) from rfl) (fun _ => ?_) (fun q => absurd bI_f' q)
      refine fst1_ok X (dk rfl) rfl ?_
      refine putO_ok X E (kf := 0) (ty := .long) fnL_13 (by decide) rfl rfl (by decide +kernel) rfl rfl (dk rfl) ho1 (Nat.le_of_ble_eq_true rfl) ?_
      refine br_ok X (dk rfl) rfl (show ((20 : Nat) : Int) + 11 = ((31 : Nat) : Int) from rfl) (fun _ => ?_) (fun q => absurd trivial q)
      refine fst1_ok X (dk rfl) rfl ?_
      refine WRX.ret ?_
      exact reti_ok X hr hlk rfl (dk rfl) (LwQ.put S1 f1 ho _ _ _) (Nat.le_of_ble_eq_true rfl) (Nat.le_of_ble_eq_true rfl)
    | true =>
      refine br_ok X (dk rfl) rfl (show ((9 : Nat) : Int) + 7 = ((16 : Nat) : Int) from rfl) (fun q => absurd q bI_t) (fun _ => ?_)
      refine fst1_ok X (dk rfl) rfl ?_
      refine br_ok X (dk rfl) rfl (show ((13 : Nat) : Int) + 4 = ((17 : Nat) : Int) from rfl) (fun _ => ?_) (fun q => absurd trivial q)
      refine putO_ok X E (kf := 0) (ty := .long) fnL_13 (by decide) rfl rfl (by decide +kernel) rfl rfl (dk rfl) ho1 (Nat.le_of_ble_eq_true rfl) ?_
      refine br_ok X (dk rfl) rfl (show ((20 : Nat) : Int) + 11 = ((31 : Nat) : Int) from rfl) (fun _ => ?_) (fun q => absurd trivial q)
      refine fst1_ok X (dk rfl) rfl ?_
      refine WRX.ret ?_
      exact reti_ok X hr hlk rfl (dk rfl) (LwQ.put S1 f1 ho _ _ _) (Nat.le_of_ble_eq_true rfl) (Nat.le_of_ble_eq_true rfl)
  · rintro E1 h1 ⟨hS, J⟩
    obtain ⟨S1, f1⟩ := KK J.1
    have hE : E1 = ioobe ∨ E1 = iae := by simpa using hS
    rcases hE with rfl | rfl
    · refine catch_ok X E [] ⟨0, 20, 23, 19⟩ [⟨0, 20, 27, 21⟩] hT (fun z hz => by cases hz) (by decide) (by decide) clL_19 cstI (fun q => ?_)
      iterate 2 refine fst1_ok X (dk rfl) rfl ?_
      refine WRX.ret ?_
      exact reti_ok X hr hlk rfl (dk rfl) (LwQ.of S1 f1 ho _) (Nat.le_of_ble_eq_true rfl) (Nat.le_of_ble_eq_true rfl)
    · refine catch_ok X E [⟨0, 20, 23, 19⟩] ⟨0, 20, 27, 21⟩ [] hT (fun z hz => Or.inr (by rw [List.mem_singleton.mp hz]; exact ⟨by decide, ioobe, clL_19, E.2.2.2.1.2.2.2.2.2.2.2.2.1⟩)) (by decide) (by decide) clL_21 cstA (fun q => ?_)
      iterate 2 refine fst1_ok X (dk rfl) rfl ?_
      refine WRX.ret ?_
      exact reti_ok X hr hlk rfl (dk rfl) (LwQ.of S1 f1 ho _) (Nat.le_of_ble_eq_true rfl) (Nat.le_of_ble_eq_true rfl)
set_option maxHeartbeats 4000000 in
theorem w_can {B Q P : Nat → Nat} (h : AH) (hl : la.stackTraces = false) (Y : LYO B Q) {ox : Nat} {kn : Int32} {st : ST} (C0 : StC B Q P ox kn h st) {oo : Nat} {v w : Value} (ho : h oo = some (9, [v, w])) (x1 x2 x3 : Int32) : CTH la D cA B0 pa yL_can cL_can 6 (some .int) [(0, 20, 23, 19), (0, 20, 27, 21)] (rmD 8 3 18) [.ref ox, .int x1, .int x2, .int x3, .ref oo] h (LwQ B Q P ox kn oo st h) := by
  refine CTH_of (by decide +kernel) (Nat.le_of_ble_eq_true rfl) ?_
  intro p e s m args below meth c X E hr hlk hT
  have dk : ∀ {pc : Nat} {q : Instr × Nat}, lkd DL_can pc = some q → decode cL_can pc = .ok q := lkd_ok DL_can_ok
  obtain ⟨fs, -, hb⟩ := C0.cell
  iterate 5 refine fst1_ok X (dk rfl) rfl ?_
  obtain ⟨I, T0, KK⟩ := FZ_st Y C0
  refine callVH_ok (ci := 8) (T := TX6) (N := 14) (av := [.int x1, .int x2, .int x3]) (r := [.ref oo]) X E (FZ.c6_can h hl I T0 x1 x2 x3) lkX6_can mlL_114 lmX6_can lpX6_can ⟨Nat.le_of_ble_eq_true rfl, Nat.le_of_ble_eq_true rfl⟩ ⟨Nat.le_of_ble_eq_true rfl, Nat.le_of_ble_eq_true rfl⟩ rfl hb (Nat.le_of_ble_eq_true rfl) (dk rfl) ?_ ?_
  · rintro _ h1 ⟨⟨y, rfl⟩, J⟩
    obtain ⟨S1, f1⟩ := KK J.1
    have ho1 := f1 _ _ ho rfl
    cases y with
    | false =>
      refine br_ok X (dk rfl) rfl (show ((9 : Nat) : Int) + 7 = ((16 : Nat) : Int) from rfl) (fun _ => ?_) (fun q => absurd bI_f' q)
      refine fst1_ok X (dk rfl) rfl ?_
      refine putO_ok X E (kf := 0) (ty := .long) fnL_13 (by decide) rfl rfl (by decide +kernel) rfl rfl (dk rfl) ho1 (Nat.le_of_ble_eq_true rfl) ?_
      refine br_ok X (dk rfl) rfl (show ((20 : Nat) : Int) + 11 = ((31 : Nat) : Int) from rfl) (fun _ => ?_) (fun q => absurd trivial q)
      refine fst1_ok X (dk rfl) rfl ?_
      refine WRX.ret ?_
      exact reti_ok X hr hlk rfl (dk rfl) (LwQ.put S1 f1 ho _ _ _) (Nat.le_of_ble_eq_true rfl) (Nat.le_of_ble_eq_true rfl)
    | true =>
      refine br_ok X (dk rfl) rfl (show ((9 : Nat) : Int) + 7 = ((16 : Nat) : Int) from rfl) (fun q => absurd q bI_t) (fun _ => ?_)
      refine fst1_ok X (dk rfl) rfl ?_
      refine br_ok X (dk rfl) rfl (show ((13 : Nat) : Int) + 4 = ((17 : Nat) : Int) from rfl) (fun _ => ?_) (fun q => absurd trivial q)
      refine putO_ok X E (kf := 0) (ty := .long) fnL_13 (by decide) rfl rfl (by decide +kernel) rfl rfl (dk rfl) ho1 (Nat.le_of_ble_eq_true rfl) ?_
      refine br_ok X (dk rfl) rfl (show ((20 : Nat) : Int) + 11 = ((31 : Nat) : Int) from rfl) (fun _ => ?_) (fun q => absurd trivial q)
      refine fst1_ok X (dk rfl) rfl ?_
      refine WRX.ret ?_
      exact reti_ok X hr hlk rfl (dk rfl) (LwQ.put S1 f1 ho _ _ _) (Nat.le_of_ble_eq_true rfl) (Nat.le_of_ble_eq_true rfl)
  · rintro E1 h1 ⟨hS, J⟩
    obtain ⟨S1, f1⟩ := KK J.1
    have hE : E1 = ioobe ∨ E1 = iae := by simpa using hS
    rcases hE with rfl | rfl
    · refine catch_ok X E [] ⟨0, 20, 23, 19⟩ [⟨0, 20, 27, 21⟩] hT (fun z hz => by cases hz) (by decide) (by decide) clL_19 cstI (fun q => ?_)
      iterate 2 refine fst1_ok X (dk rfl) rfl ?_
      refine WRX.ret ?_
      exact reti_ok X hr hlk rfl (dk rfl) (LwQ.of S1 f1 ho _) (Nat.le_of_ble_eq_true rfl) (Nat.le_of_ble_eq_true rfl)
    · refine catch_ok X E [⟨0, 20, 23, 19⟩] ⟨0, 20, 27, 21⟩ [] hT (fun z hz => Or.inr (by rw [List.mem_singleton.mp hz]; exact ⟨by decide, ioobe, clL_19, E.2.2.2.1.2.2.2.2.2.2.2.2.1⟩)) (by decide) (by decide) clL_21 cstA (fun q => ?_)
      iterate 2 refine fst1_ok X (dk rfl) rfl ?_
      refine WRX.ret ?_
      exact reti_ok X hr hlk rfl (dk rfl) (LwQ.of S1 f1 ho _) (Nat.le_of_ble_eq_true rfl) (Nat.le_of_ble_eq_true rfl)
set_option maxHeartbeats 4000000 in
theorem w_steps {B Q P : Nat → Nat} (h : AH) (hl : la.stackTraces = false) (Y : LYO B Q) {ox : Nat} {kn : Int32} {st : ST} (C0 : StC B Q P ox kn h st) {oo : Nat} {v w : Value} (ho : h oo = some (9, [v, w])) (x1 x2 : Int32) : CTH la D cA B0 pa yL_steps cL_steps 5 (some .int) [(0, 11, 14, 19)] (rmD 8 2 12) [.ref ox, .int x1, .int x2, .ref oo] h (LwQ B Q P ox kn oo st h) := by
  refine CTH_of (by decide +kernel) (Nat.le_of_ble_eq_true rfl) ?_
  intro p e s m args below meth c X E hr hlk hT
  have dk : ∀ {pc : Nat} {q : Instr × Nat}, lkd DL_steps pc = some q → decode cL_steps pc = .ok q := lkd_ok DL_steps_ok
  obtain ⟨fs, -, hb⟩ := C0.cell
  iterate 4 refine fst1_ok X (dk rfl) rfl ?_
  obtain ⟨I, T0, KK⟩ := FZ_st Y C0
  refine callVH_ok (ci := 8) (T := TX6) (N := 14) (av := [.int x1, .int x2]) (r := [.ref oo]) X E (FZ.c6_steps h hl I T0 x1 x2) lkX6_steps mlL_117 lmX6_steps lpX6_steps ⟨Nat.le_of_ble_eq_true rfl, Nat.le_of_ble_eq_true rfl⟩ ⟨Nat.le_of_ble_eq_true rfl, Nat.le_of_ble_eq_true rfl⟩ rfl hb (Nat.le_of_ble_eq_true rfl) (dk rfl) ?_ ?_
  · rintro _ h1 ⟨⟨y, rfl⟩, J⟩
    obtain ⟨S1, f1⟩ := KK J.1
    have ho1 := f1 _ _ ho rfl
    refine fst1_ok X (dk rfl) rfl ?_
    refine putO_ok X E (kf := 0) (ty := .long) fnL_13 (by decide) rfl rfl (by decide +kernel) rfl rfl (dk rfl) ho1 (Nat.le_of_ble_eq_true rfl) ?_
    refine br_ok X (dk rfl) rfl (show ((11 : Nat) : Int) + 7 = ((18 : Nat) : Int) from rfl) (fun _ => ?_) (fun q => absurd trivial q)
    refine fst1_ok X (dk rfl) rfl ?_
    refine WRX.ret ?_
    exact reti_ok X hr hlk rfl (dk rfl) (LwQ.put S1 f1 ho _ _ _) (Nat.le_of_ble_eq_true rfl) (Nat.le_of_ble_eq_true rfl)
  · rintro E1 h1 ⟨hS, J⟩
    obtain ⟨S1, f1⟩ := KK J.1
    have hE : E1 = ioobe := by simpa using hS
    subst hE
    refine catch_ok X E [] ⟨0, 11, 14, 19⟩ [] hT (fun z hz => by cases hz) (by decide) (by decide) clL_19 cstI (fun q => ?_)
    iterate 2 refine fst1_ok X (dk rfl) rfl ?_
    refine WRX.ret ?_
    exact reti_ok X hr hlk rfl (dk rfl) (LwQ.of S1 f1 ho _) (Nat.le_of_ble_eq_true rfl) (Nat.le_of_ble_eq_true rfl)
set_option maxHeartbeats 4000000 in
theorem w_why {B Q P : Nat → Nat} (h : AH) (hl : la.stackTraces = false) (Y : LYO B Q) {ox : Nat} {kn : Int32} {st : ST} (C0 : StC B Q P ox kn h st) {oo : Nat} {v w : Value} (ho : h oo = some (9, [v, w])) (x1 x2 : Int32) : CTH la D cA B0 pa yL_why cL_why 5 (some .int) [(0, 11, 14, 19)] (rmD 8 2 12) [.ref ox, .int x1, .int x2, .ref oo] h (LwQ B Q P ox kn oo st h) := by
  refine CTH_of (by decide +kernel) (Nat.le_of_ble_eq_true rfl) ?_
  intro p e s m args below meth c X E hr hlk hT
  have dk : ∀ {pc : Nat} {q : Instr × Nat}, lkd DL_why pc = some q → decode cL_why pc = .ok q := lkd_ok DL_why_ok
  obtain ⟨fs, -, hb⟩ := C0.cell
  iterate 4 refine fst1_ok X (dk rfl) rfl ?_
  obtain ⟨I, T0, KK⟩ := FZ_st Y C0
  refine callVH_ok (ci := 8) (T := TX6) (N := 14) (av := [.int x1, .int x2]) (r := [.ref oo]) X E (FZ.c6_why h hl I T0 x1 x2) lkX6_why mlL_120 lmX6_why lpX6_why ⟨Nat.le_of_ble_eq_true rfl, Nat.le_of_ble_eq_true rfl⟩ ⟨Nat.le_of_ble_eq_true rfl, Nat.le_of_ble_eq_true rfl⟩ rfl hb (Nat.le_of_ble_eq_true rfl) (dk rfl) ?_ ?_
  · rintro _ h1 ⟨⟨y, rfl⟩, J⟩
    obtain ⟨S1, f1⟩ := KK J.1
    have ho1 := f1 _ _ ho rfl
    refine fst1_ok X (dk rfl) rfl ?_
    refine putO_ok X E (kf := 0) (ty := .long) fnL_13 (by decide) rfl rfl (by decide +kernel) rfl rfl (dk rfl) ho1 (Nat.le_of_ble_eq_true rfl) ?_
    refine br_ok X (dk rfl) rfl (show ((11 : Nat) : Int) + 7 = ((18 : Nat) : Int) from rfl) (fun _ => ?_) (fun q => absurd trivial q)
    refine fst1_ok X (dk rfl) rfl ?_
    refine WRX.ret ?_
    exact reti_ok X hr hlk rfl (dk rfl) (LwQ.put S1 f1 ho _ _ _) (Nat.le_of_ble_eq_true rfl) (Nat.le_of_ble_eq_true rfl)
  · rintro E1 h1 ⟨hS, J⟩
    obtain ⟨S1, f1⟩ := KK J.1
    have hE : E1 = ioobe := by simpa using hS
    subst hE
    refine catch_ok X E [] ⟨0, 11, 14, 19⟩ [] hT (fun z hz => by cases hz) (by decide) (by decide) clL_19 cstI (fun q => ?_)
    iterate 2 refine fst1_ok X (dk rfl) rfl ?_
    refine WRX.ret ?_
    exact reti_ok X hr hlk rfl (dk rfl) (LwQ.of S1 f1 ho _) (Nat.le_of_ble_eq_true rfl) (Nat.le_of_ble_eq_true rfl)
set_option maxHeartbeats 4000000 in
theorem w_told {B Q P : Nat → Nat} (h : AH) (hl : la.stackTraces = false) (Y : LYO B Q) {ox : Nat} {kn : Int32} {st : ST} (C0 : StC B Q P ox kn h st) {oo : Nat} {v w : Value} (ho : h oo = some (9, [v, w])) (x1 x2 : Int32) : CTH la D cA B0 pa yL_told cL_told 5 (some .int) [(0, 10, 13, 19), (0, 10, 17, 21)] (rmD 8 158 46412) [.ref ox, .int x1, .int x2, .ref oo] h (LwQ B Q P ox kn oo st h) := by
  refine CTH_of (by decide +kernel) (Nat.le_of_ble_eq_true rfl) ?_
  intro p e s m args below meth c X E hr hlk hT
  have dk : ∀ {pc : Nat} {q : Instr × Nat}, lkd DL_told pc = some q → decode cL_told pc = .ok q := lkd_ok DL_told_ok
  obtain ⟨fs, -, hb⟩ := C0.cell
  iterate 4 refine fst1_ok X (dk rfl) rfl ?_
  refine callVH_ok (ci := 8) (T := TX6) (N := 14) (av := [.int x1, .int x2]) (r := [.ref oo]) X E (s6_told h hl Y C0 x1 x2) lkX6_told mlL_123 lmX6_told lpX6_told ⟨Nat.le_of_ble_eq_true rfl, Nat.le_of_ble_eq_true rfl⟩ ⟨Nat.le_of_ble_eq_true rfl, Nat.le_of_ble_eq_true rfl⟩ rfl hb (Nat.le_of_ble_eq_true rfl) (dk rfl) ?_ ?_
  · rintro _ h1 ⟨⟨y, rfl⟩, S1, f1⟩
    have ho1 := f1 _ _ ho rfl
    refine putO_ok X E (kf := 1) (ty := .object "java/lang/String") fnL_79 (by decide) rfl rfl (by decide +kernel) rfl rfl (dk rfl) ho1 (Nat.le_of_ble_eq_true rfl) ?_
    refine br_ok X (dk rfl) rfl (show ((10 : Nat) : Int) + 11 = ((21 : Nat) : Int) from rfl) (fun _ => ?_) (fun q => absurd trivial q)
    refine fst1_ok X (dk rfl) rfl ?_
    refine WRX.ret ?_
    exact reti_ok X hr hlk rfl (dk rfl) (LwQ.put S1 f1 ho _ _ _) (Nat.le_of_ble_eq_true rfl) (Nat.le_of_ble_eq_true rfl)
  · rintro E1 h1 ⟨hE, hst, e1⟩
    subst e1
    rcases hE with ⟨q1, rfl⟩ | ⟨q1, rfl⟩
    · refine catch_ok X E [] ⟨0, 10, 13, 19⟩ [⟨0, 10, 17, 21⟩] hT (fun z hz => by cases hz) (by decide) (by decide) clL_19 cstI (fun q => ?_)
      iterate 2 refine fst1_ok X (dk rfl) rfl ?_
      refine WRX.ret ?_
      exact reti_ok X hr hlk rfl (dk rfl) (LwQ.of C0 (fun a c e _ => e) ho _) (Nat.le_of_ble_eq_true rfl) (Nat.le_of_ble_eq_true rfl)
    · refine catch_ok X E [⟨0, 10, 13, 19⟩] ⟨0, 10, 17, 21⟩ [] hT (fun z hz => Or.inr (by rw [List.mem_singleton.mp hz]; exact ⟨by decide, ioobe, clL_19, E.2.2.2.1.2.2.2.2.2.2.2.2.1⟩)) (by decide) (by decide) clL_21 cstA (fun q => ?_)
      iterate 2 refine fst1_ok X (dk rfl) rfl ?_
      refine WRX.ret ?_
      exact reti_ok X hr hlk rfl (dk rfl) (LwQ.of C0 (fun a c e _ => e) ho _) (Nat.le_of_ble_eq_true rfl) (Nat.le_of_ble_eq_true rfl)
set_option maxHeartbeats 4000000 in
theorem w_moved {B Q P : Nat → Nat} (h : AH) (hl : la.stackTraces = false) (Y : LYO B Q) {ox : Nat} {kn : Int32} {st : ST} (C0 : StC B Q P ox kn h st) {oo : Nat} {v w : Value} (ho : h oo = some (9, [v, w])) (x1 : Int32) : CTH la D cA B0 pa yL_moved cL_moved 4 (some .int) [(0, 10, 13, 19)] (rmD 8 1 6) [.ref ox, .int x1, .ref oo] h (LwQ B Q P ox kn oo st h) := by
  refine CTH_of (by decide +kernel) (Nat.le_of_ble_eq_true rfl) ?_
  intro p e s m args below meth c X E hr hlk hT
  have dk : ∀ {pc : Nat} {q : Instr × Nat}, lkd DL_moved pc = some q → decode cL_moved pc = .ok q := lkd_ok DL_moved_ok
  obtain ⟨fs, -, hb⟩ := C0.cell
  iterate 3 refine fst1_ok X (dk rfl) rfl ?_
  obtain ⟨I, T0, KK⟩ := FZ_st Y C0
  refine callVH_ok (ci := 8) (T := TX6) (N := 14) (av := [.int x1]) (r := [.ref oo]) X E (FZ.c6_moved h hl I T0 x1) lkX6_moved mlL_127 lmX6_moved lpX6_moved ⟨Nat.le_of_ble_eq_true rfl, Nat.le_of_ble_eq_true rfl⟩ ⟨Nat.le_of_ble_eq_true rfl, Nat.le_of_ble_eq_true rfl⟩ rfl hb (Nat.le_of_ble_eq_true rfl) (dk rfl) ?_ ?_
  · rintro _ h1 ⟨⟨y, rfl⟩, J⟩
    obtain ⟨S1, f1⟩ := KK J.1
    have ho1 := f1 _ _ ho rfl
    refine fst1_ok X (dk rfl) rfl ?_
    refine putO_ok X E (kf := 0) (ty := .long) fnL_13 (by decide) rfl rfl (by decide +kernel) rfl rfl (dk rfl) ho1 (Nat.le_of_ble_eq_true rfl) ?_
    refine br_ok X (dk rfl) rfl (show ((10 : Nat) : Int) + 6 = ((16 : Nat) : Int) from rfl) (fun _ => ?_) (fun q => absurd trivial q)
    refine fst1_ok X (dk rfl) rfl ?_
    refine WRX.ret ?_
    exact reti_ok X hr hlk rfl (dk rfl) (LwQ.put S1 f1 ho _ _ _) (Nat.le_of_ble_eq_true rfl) (Nat.le_of_ble_eq_true rfl)
  · rintro E1 h1 ⟨hS, J⟩
    obtain ⟨S1, f1⟩ := KK J.1
    have hE : E1 = ioobe := by simpa using hS
    subst hE
    refine catch_ok X E [] ⟨0, 10, 13, 19⟩ [] hT (fun z hz => by cases hz) (by decide) (by decide) clL_19 cstI (fun q => ?_)
    iterate 2 refine fst1_ok X (dk rfl) rfl ?_
    refine WRX.ret ?_
    exact reti_ok X hr hlk rfl (dk rfl) (LwQ.of S1 f1 ho _) (Nat.le_of_ble_eq_true rfl) (Nat.le_of_ble_eq_true rfl)
set_option maxHeartbeats 4000000 in
theorem w_makes {B Q P : Nat → Nat} (h : AH) (hl : la.stackTraces = false) (Y : LYO B Q) {ox : Nat} {kn : Int32} {st : ST} (C0 : StC B Q P ox kn h st) {oo : Nat} {v w : Value} (ho : h oo = some (9, [v, w])) (x1 x2 x3 : Int32) : CTH la D cA B0 pa yL_makes cL_makes 6 (some .int) [(0, 20, 23, 19)] (rmD 8 3 18) [.ref ox, .int x1, .int x2, .int x3, .ref oo] h (LwQ B Q P ox kn oo st h) := by
  refine CTH_of (by decide +kernel) (Nat.le_of_ble_eq_true rfl) ?_
  intro p e s m args below meth c X E hr hlk hT
  have dk : ∀ {pc : Nat} {q : Instr × Nat}, lkd DL_makes pc = some q → decode cL_makes pc = .ok q := lkd_ok DL_makes_ok
  obtain ⟨fs, -, hb⟩ := C0.cell
  iterate 5 refine fst1_ok X (dk rfl) rfl ?_
  obtain ⟨I, T0, KK⟩ := FZ_st Y C0
  refine callVH_ok (ci := 8) (T := TX6) (N := 14) (av := [.int x1, .int x2, .int x3]) (r := [.ref oo]) X E (FZ.c6_makes h hl I T0 x1 x2 x3) lkX6_makes mlL_130 lmX6_makes lpX6_makes ⟨Nat.le_of_ble_eq_true rfl, Nat.le_of_ble_eq_true rfl⟩ ⟨Nat.le_of_ble_eq_true rfl, Nat.le_of_ble_eq_true rfl⟩ rfl hb (Nat.le_of_ble_eq_true rfl) (dk rfl) ?_ ?_
  · rintro _ h1 ⟨⟨y, rfl⟩, J⟩
    obtain ⟨S1, f1⟩ := KK J.1
    have ho1 := f1 _ _ ho rfl
    cases y with
    | false =>
      refine br_ok X (dk rfl) rfl (show ((9 : Nat) : Int) + 7 = ((16 : Nat) : Int) from rfl) (fun _ => ?_) (fun q => absurd bI_f' q)
      refine fst1_ok X (dk rfl) rfl ?_
      refine putO_ok X E (kf := 0) (ty := .long) fnL_13 (by decide) rfl rfl (by decide +kernel) rfl rfl (dk rfl) ho1 (Nat.le_of_ble_eq_true rfl) ?_
      refine br_ok X (dk rfl) rfl (show ((20 : Nat) : Int) + 7 = ((27 : Nat) : Int) from rfl) (fun _ => ?_) (fun q => absurd trivial q)
      refine fst1_ok X (dk rfl) rfl ?_
      refine WRX.ret ?_
      exact reti_ok X hr hlk rfl (dk rfl) (LwQ.put S1 f1 ho _ _ _) (Nat.le_of_ble_eq_true rfl) (Nat.le_of_ble_eq_true rfl)
    | true =>
      refine br_ok X (dk rfl) rfl (show ((9 : Nat) : Int) + 7 = ((16 : Nat) : Int) from rfl) (fun q => absurd q bI_t) (fun _ => ?_)
      refine fst1_ok X (dk rfl) rfl ?_
      refine br_ok X (dk rfl) rfl (show ((13 : Nat) : Int) + 4 = ((17 : Nat) : Int) from rfl) (fun _ => ?_) (fun q => absurd trivial q)
      refine putO_ok X E (kf := 0) (ty := .long) fnL_13 (by decide) rfl rfl (by decide +kernel) rfl rfl (dk rfl) ho1 (Nat.le_of_ble_eq_true rfl) ?_
      refine br_ok X (dk rfl) rfl (show ((20 : Nat) : Int) + 7 = ((27 : Nat) : Int) from rfl) (fun _ => ?_) (fun q => absurd trivial q)
      refine fst1_ok X (dk rfl) rfl ?_
      refine WRX.ret ?_
      exact reti_ok X hr hlk rfl (dk rfl) (LwQ.put S1 f1 ho _ _ _) (Nat.le_of_ble_eq_true rfl) (Nat.le_of_ble_eq_true rfl)
  · rintro E1 h1 ⟨hS, J⟩
    obtain ⟨S1, f1⟩ := KK J.1
    have hE : E1 = ioobe := by simpa using hS
    subst hE
    refine catch_ok X E [] ⟨0, 20, 23, 19⟩ [] hT (fun z hz => by cases hz) (by decide) (by decide) clL_19 cstI (fun q => ?_)
    iterate 2 refine fst1_ok X (dk rfl) rfl ?_
    refine WRX.ret ?_
    exact reti_ok X hr hlk rfl (dk rfl) (LwQ.of S1 f1 ho _) (Nat.le_of_ble_eq_true rfl) (Nat.le_of_ble_eq_true rfl)
set_option maxHeartbeats 4000000 in
theorem w_isSo {B Q P : Nat → Nat} (h : AH) (hl : la.stackTraces = false) (Y : LYO B Q) {ox : Nat} {kn : Int32} {st : ST} (C0 : StC B Q P ox kn h st) {oo : Nat} {v w : Value} (ho : h oo = some (9, [v, w])) (x1 x2 : Int32) : CTH la D cA B0 pa yL_isSo cL_isSo 5 (some .int) [(0, 18, 21, 19), (0, 18, 25, 21)] (rmD 8 2 12) [.ref ox, .int x1, .int x2, .ref oo] h (LwQ B Q P ox kn oo st h) := by
  refine CTH_of (by decide +kernel) (Nat.le_of_ble_eq_true rfl) ?_
  intro p e s m args below meth c X E hr hlk hT
  have dk : ∀ {pc : Nat} {q : Instr × Nat}, lkd DL_isSo pc = some q → decode cL_isSo pc = .ok q := lkd_ok DL_isSo_ok
  obtain ⟨fs, -, hb⟩ := C0.cell
  iterate 4 refine fst1_ok X (dk rfl) rfl ?_
  obtain ⟨I, T0, KK⟩ := FZ_st Y C0
  refine callVH_ok (ci := 8) (T := TX6) (N := 14) (av := [.int x1, .int x2]) (r := [.ref oo]) X E (FZ.c6_isSo h hl I T0 x1 x2) lkX6_isSo mlL_133 lmX6_isSo lpX6_isSo ⟨Nat.le_of_ble_eq_true rfl, Nat.le_of_ble_eq_true rfl⟩ ⟨Nat.le_of_ble_eq_true rfl, Nat.le_of_ble_eq_true rfl⟩ rfl hb (Nat.le_of_ble_eq_true rfl) (dk rfl) ?_ ?_
  · rintro _ h1 ⟨⟨y, rfl⟩, J⟩
    obtain ⟨S1, f1⟩ := KK J.1
    have ho1 := f1 _ _ ho rfl
    cases y with
    | false =>
      refine br_ok X (dk rfl) rfl (show ((7 : Nat) : Int) + 7 = ((14 : Nat) : Int) from rfl) (fun _ => ?_) (fun q => absurd bI_f' q)
      refine fst1_ok X (dk rfl) rfl ?_
      refine putO_ok X E (kf := 0) (ty := .long) fnL_13 (by decide) rfl rfl (by decide +kernel) rfl rfl (dk rfl) ho1 (Nat.le_of_ble_eq_true rfl) ?_
      refine br_ok X (dk rfl) rfl (show ((18 : Nat) : Int) + 11 = ((29 : Nat) : Int) from rfl) (fun _ => ?_) (fun q => absurd trivial q)
      refine fst1_ok X (dk rfl) rfl ?_
      refine WRX.ret ?_
      exact reti_ok X hr hlk rfl (dk rfl) (LwQ.put S1 f1 ho _ _ _) (Nat.le_of_ble_eq_true rfl) (Nat.le_of_ble_eq_true rfl)
    | true =>
      refine br_ok X (dk rfl) rfl (show ((7 : Nat) : Int) + 7 = ((14 : Nat) : Int) from rfl) (fun q => absurd q bI_t) (fun _ => ?_)
      refine fst1_ok X (dk rfl) rfl ?_
      refine br_ok X (dk rfl) rfl (show ((11 : Nat) : Int) + 4 = ((15 : Nat) : Int) from rfl) (fun _ => ?_) (fun q => absurd trivial q)
      refine putO_ok X E (kf := 0) (ty := .long) fnL_13 (by decide) rfl rfl (by decide +kernel) rfl rfl (dk rfl) ho1 (Nat.le_of_ble_eq_true rfl) ?_
      refine br_ok X (dk rfl) rfl (show ((18 : Nat) : Int) + 11 = ((29 : Nat) : Int) from rfl) (fun _ => ?_) (fun q => absurd trivial q)
      refine fst1_ok X (dk rfl) rfl ?_
      refine WRX.ret ?_
      exact reti_ok X hr hlk rfl (dk rfl) (LwQ.put S1 f1 ho _ _ _) (Nat.le_of_ble_eq_true rfl) (Nat.le_of_ble_eq_true rfl)
  · rintro E1 h1 ⟨hS, J⟩
    obtain ⟨S1, f1⟩ := KK J.1
    have hE : E1 = ioobe ∨ E1 = iae := by simpa using hS
    rcases hE with rfl | rfl
    · refine catch_ok X E [] ⟨0, 18, 21, 19⟩ [⟨0, 18, 25, 21⟩] hT (fun z hz => by cases hz) (by decide) (by decide) clL_19 cstI (fun q => ?_)
      iterate 2 refine fst1_ok X (dk rfl) rfl ?_
      refine WRX.ret ?_
      exact reti_ok X hr hlk rfl (dk rfl) (LwQ.of S1 f1 ho _) (Nat.le_of_ble_eq_true rfl) (Nat.le_of_ble_eq_true rfl)
    · refine catch_ok X E [⟨0, 18, 21, 19⟩] ⟨0, 18, 25, 21⟩ [] hT (fun z hz => Or.inr (by rw [List.mem_singleton.mp hz]; exact ⟨by decide, ioobe, clL_19, E.2.2.2.1.2.2.2.2.2.2.2.2.1⟩)) (by decide) (by decide) clL_21 cstA (fun q => ?_)
      iterate 2 refine fst1_ok X (dk rfl) rfl ?_
      refine WRX.ret ?_
      exact reti_ok X hr hlk rfl (dk rfl) (LwQ.of S1 f1 ho _) (Nat.le_of_ble_eq_true rfl) (Nat.le_of_ble_eq_true rfl)
set_option maxHeartbeats 4000000 in
theorem w_unlike {B Q P : Nat → Nat} (h : AH) (hl : la.stackTraces = false) (Y : LYO B Q) {ox : Nat} {kn : Int32} {st : ST} (C0 : StC B Q P ox kn h st) {oo : Nat} {v w : Value} (ho : h oo = some (9, [v, w])) (x1 x2 : Int32) : CTH la D cA B0 pa yL_unlike cL_unlike 5 (some .int) [(0, 11, 14, 19)] (rmD 8 2 12) [.ref ox, .int x1, .int x2, .ref oo] h (LwS B Q P ox kn oo (aUnlike x1 x2 st) h) := by
  refine CTH_of (by decide +kernel) (Nat.le_of_ble_eq_true rfl) ?_
  intro p e s m args below meth c X E hr hlk hT
  have dk : ∀ {pc : Nat} {q : Instr × Nat}, lkd DL_unlike pc = some q → decode cL_unlike pc = .ok q := lkd_ok DL_unlike_ok
  obtain ⟨fs, -, hb⟩ := C0.cell
  iterate 4 refine fst1_ok X (dk rfl) rfl ?_
  refine callVH_ok (ci := 8) (T := TX6) (N := 14) (av := [.int x1, .int x2]) (r := [.ref oo]) X E (s6_unlike h hl Y C0 x1 x2) lkX6_unlike mlL_137 lmX6_unlike lpX6_unlike ⟨Nat.le_of_ble_eq_true rfl, Nat.le_of_ble_eq_true rfl⟩ ⟨Nat.le_of_ble_eq_true rfl, Nat.le_of_ble_eq_true rfl⟩ rfl hb (Nat.le_of_ble_eq_true rfl) (dk rfl) ?_ ?_
  · rintro _ h1 ⟨hz, rfl, S1, f1⟩
    have ho1 := f1 _ _ ho rfl
    refine fst1_ok X (dk rfl) rfl ?_
    refine putO_ok X E (kf := 0) (ty := .long) fnL_13 (by decide) rfl rfl (by decide +kernel) rfl rfl (dk rfl) ho1 (Nat.le_of_ble_eq_true rfl) ?_
    refine br_ok X (dk rfl) rfl (show ((11 : Nat) : Int) + 7 = ((18 : Nat) : Int) from rfl) (fun _ => ?_) (fun q => absurd trivial q)
    refine fst1_ok X (dk rfl) rfl ?_
    refine WRX.ret ?_
    exact reti_ok X hr hlk rfl (dk rfl) (LwS.put hz S1 f1 ho rfl) (Nat.le_of_ble_eq_true rfl) (Nat.le_of_ble_eq_true rfl)
  · rintro E1 h1 ⟨hE, hst, e1⟩
    subst e1
    rcases hE with ⟨q1, rfl⟩ | ⟨q1, rfl⟩
    · refine catch_ok X E [] ⟨0, 11, 14, 19⟩ [] hT (fun z hz => by cases hz) (by decide) (by decide) clL_19 cstI (fun q => ?_)
      iterate 2 refine fst1_ok X (dk rfl) rfl ?_
      refine WRX.ret ?_
      exact reti_ok X hr hlk rfl (dk rfl) (LwS.thr (k := 1) (by decide) q1 hst C0 ho rfl) (Nat.le_of_ble_eq_true rfl) (Nat.le_of_ble_eq_true rfl)
    · exact absurd q1 (aUnlike_n2 x1 x2 st)
set_option maxHeartbeats 4000000 in
theorem w_weight {B Q P : Nat → Nat} (h : AH) (hl : la.stackTraces = false) (Y : LYO B Q) {ox : Nat} {kn : Int32} {st : ST} (C0 : StC B Q P ox kn h st) {oo : Nat} {v w : Value} (ho : h oo = some (9, [v, w])) (x1 : Int32) (x2 : Bool) : CTH la D cA B0 pa yL_weight cL_weight 5 (some .int) [(0, 11, 14, 19)] (rmD 8 1 6) [.ref ox, .int x1, .int (bI x2), .ref oo] h (LwQ B Q P ox kn oo st h) := by
  refine CTH_of (by decide +kernel) (Nat.le_of_ble_eq_true rfl) ?_
  intro p e s m args below meth c X E hr hlk hT
  have dk : ∀ {pc : Nat} {q : Instr × Nat}, lkd DL_weight pc = some q → decode cL_weight pc = .ok q := lkd_ok DL_weight_ok
  obtain ⟨fs, -, hb⟩ := C0.cell
  iterate 4 refine fst1_ok X (dk rfl) rfl ?_
  obtain ⟨I, T0, KK⟩ := FZ_st Y C0
  refine callVH_ok (ci := 8) (T := TX6) (N := 14) (av := [.int x1, .int (bI x2)]) (r := [.ref oo]) X E (FZ.c6_weight h hl I T0 x1 x2) lkX6_weight mlL_140 lmX6_weight lpX6_weight ⟨Nat.le_of_ble_eq_true rfl, Nat.le_of_ble_eq_true rfl⟩ ⟨Nat.le_of_ble_eq_true rfl, Nat.le_of_ble_eq_true rfl⟩ rfl hb (Nat.le_of_ble_eq_true rfl) (dk rfl) ?_ ?_
  · rintro _ h1 ⟨⟨y, rfl⟩, J⟩
    obtain ⟨S1, f1⟩ := KK J.1
    have ho1 := f1 _ _ ho rfl
    refine fst1_ok X (dk rfl) rfl ?_
    refine putO_ok X E (kf := 0) (ty := .long) fnL_13 (by decide) rfl rfl (by decide +kernel) rfl rfl (dk rfl) ho1 (Nat.le_of_ble_eq_true rfl) ?_
    refine br_ok X (dk rfl) rfl (show ((11 : Nat) : Int) + 7 = ((18 : Nat) : Int) from rfl) (fun _ => ?_) (fun q => absurd trivial q)
    refine fst1_ok X (dk rfl) rfl ?_
    refine WRX.ret ?_
    exact reti_ok X hr hlk rfl (dk rfl) (LwQ.put S1 f1 ho _ _ _) (Nat.le_of_ble_eq_true rfl) (Nat.le_of_ble_eq_true rfl)
  · rintro E1 h1 ⟨hS, J⟩
    obtain ⟨S1, f1⟩ := KK J.1
    have hE : E1 = ioobe := by simpa using hS
    subst hE
    refine catch_ok X E [] ⟨0, 11, 14, 19⟩ [] hT (fun z hz => by cases hz) (by decide) (by decide) clL_19 cstI (fun q => ?_)
    iterate 2 refine fst1_ok X (dk rfl) rfl ?_
    refine WRX.ret ?_
    exact reti_ok X hr hlk rfl (dk rfl) (LwQ.of S1 f1 ho _) (Nat.le_of_ble_eq_true rfl) (Nat.le_of_ble_eq_true rfl)
set_option maxHeartbeats 4000000 in
theorem w_house {B Q P : Nat → Nat} (h : AH) (hl : la.stackTraces = false) (Y : LYO B Q) {ox : Nat} {kn : Int32} {st : ST} (C0 : StC B Q P ox kn h st) {oo : Nat} {v w : Value} (ho : h oo = some (9, [v, w])) (x1 : Int32) : CTH la D cA B0 pa yL_house cL_house 4 (some .int) [(0, 10, 13, 21)] (rmD 7 1 6) [.ref ox, .int x1, .ref oo] h (LwQ B Q P ox kn oo st h) := by
  refine CTH_of (by decide +kernel) (Nat.le_of_ble_eq_true rfl) ?_
  intro p e s m args below meth c X E hr hlk hT
  have dk : ∀ {pc : Nat} {q : Instr × Nat}, lkd DL_house pc = some q → decode cL_house pc = .ok q := lkd_ok DL_house_ok
  obtain ⟨fs, -, hb⟩ := C0.cell
  iterate 3 refine fst1_ok X (dk rfl) rfl ?_
  obtain ⟨I, T0, KK⟩ := FZ_st Y C0
  refine callVH_ok (ci := 8) (T := TX6) (N := 14) (av := [.int x1]) (r := [.ref oo]) X E (FZ.c6_house h hl I T0 x1) lkX6_house mlL_144 lmX6_house lpX6_house ⟨Nat.le_of_ble_eq_true rfl, Nat.le_of_ble_eq_true rfl⟩ ⟨Nat.le_of_ble_eq_true rfl, Nat.le_of_ble_eq_true rfl⟩ rfl hb (Nat.le_of_ble_eq_true rfl) (dk rfl) ?_ ?_
  · rintro _ h1 ⟨⟨y, rfl⟩, J⟩
    obtain ⟨S1, f1⟩ := KK J.1
    have ho1 := f1 _ _ ho rfl
    refine fst1_ok X (dk rfl) rfl ?_
    refine putO_ok X E (kf := 0) (ty := .long) fnL_13 (by decide) rfl rfl (by decide +kernel) rfl rfl (dk rfl) ho1 (Nat.le_of_ble_eq_true rfl) ?_
    refine br_ok X (dk rfl) rfl (show ((10 : Nat) : Int) + 6 = ((16 : Nat) : Int) from rfl) (fun _ => ?_) (fun q => absurd trivial q)
    refine fst1_ok X (dk rfl) rfl ?_
    refine WRX.ret ?_
    exact reti_ok X hr hlk rfl (dk rfl) (LwQ.put S1 f1 ho _ _ _) (Nat.le_of_ble_eq_true rfl) (Nat.le_of_ble_eq_true rfl)
  · rintro E1 h1 ⟨hS, J⟩
    obtain ⟨S1, f1⟩ := KK J.1
    have hE : E1 = iae := by simpa using hS
    subst hE
    refine catch_ok X E [] ⟨0, 10, 13, 21⟩ [] hT (fun z hz => by cases hz) (by decide) (by decide) clL_21 cstA (fun q => ?_)
    iterate 2 refine fst1_ok X (dk rfl) rfl ?_
    refine WRX.ret ?_
    exact reti_ok X hr hlk rfl (dk rfl) (LwQ.of S1 f1 ho _) (Nat.le_of_ble_eq_true rfl) (Nat.le_of_ble_eq_true rfl)
end G03
