/-! the class, strongly: an answer out of places (printed by wip/p20/genT4.py) -/
theorem pI_some (q : Nat) : pI (some q) = nI q := rfl
theorem pI_none : pI none = Int32.ofInt (-1) := rfl
theorem nI_m1 {q : Nat} (h : q < 2 ^ 31) : nI q ≠ Int32.ofInt (-1) := fun z => nI_pos h (by rw [z]; decide +kernel)
section S16
variable {la : Launch} {D : va_G} {cA : Nat → ClassId} {B0 pa : Nat} {B Q P : Nat → Nat} {F : Nat → TC}
set_option maxHeartbeats 16000000 in
theorem s0_addUsedT (h : AH) (Y : LYO B Q) (S : TS B Q h F) {o f : Nat} (O : AnO B h o f) {i1 : Nat} (h1i : i1 < 52) {nz : List Nat} (hN : TN (F i1) nz) {i2 : Nat} (h2i : i2 < 52) (h12 : i1 ≠ i2)  {a b : Nat} (hab : a ≤ b) (hb : b ≤ nz.length) (h2f : ∀ y ∈ (nz.drop a).take (b - a), y < 8 → f + y ≠ i2) : CT la D cA B0 pa yX0_addUsed cX0_addUsed 7 none (rmD 2 0 0) [.ref o, .ref (B i1), vI a, vI b, .ref (B i2)] h (TP B Q (upF F i2 (auC (rmI i2) F f (F i2) ((nz.drop a).take (b - a)))) h) := by
  refine CT_of (by decide +kernel) (Nat.le_of_ble_eq_true rfl) ?_
  intro p e s m args below meth c X E hr hlk hnm
  have dk : ∀ {pc : Nat} {q : Instr × Nat}, lkd DX0_addUsed pc = some q → decode cX0_addUsed pc = .ok q := lkd_ok DX0_addUsed_ok
  obtain ⟨of, arr, o1, o2⟩ := id O
  have hL := rmI_le i1
  have hlen := (S i1 h1i).1
  rw [hN.len] at hlen
  have loop : ∀ (d k : Nat) (t : TC) (h1 : AH), d = b - k → k ≤ b → a ≤ k → TS B Q h1 (upF F i2 t) → FrT B Q h h1 → auC (rmI i2) F f t ((nz.drop k).take (b - k)) = (auC (rmI i2) F f (F i2) ((nz.drop a).take (b - a))) → ∀ l : List (Nat × Value), lsel l [5, 4, 3, 1, 0] = [(5, vI k), (4, .ref (B i2)), (3, vI b), (1, .ref (B i1)), (0, .ref o)] → WR p la e (rmD 2 0 0) s m args below meth c D cA B0 7 (TP B Q (upF F i2 (auC (rmI i2) F f (F i2) ((nz.drop a).take (b - a)))) h) 3 l [] h1 0 0 := by
    intro d
    induction d with
    | zero =>
      intro k t h1 hd hk hak S1 f1 eU l hl
      have hk2 : k = b := by omega
      rw [hk2, Nat.sub_self, List.take_zero] at eU
      have e2 : t = (auC (rmI i2) F f (F i2) ((nz.drop a).take (b - a))) := eU
      rw [e2] at S1
      refine WS.sel [5, 4, 3, 1, 0] hl ?_
      iterate 2 refine fst1_ok X (dk rfl) rfl ?_
      refine br_ok X (dk rfl) rfl (show ((6 : Nat) : Int) + 47 = ((53 : Nat) : Int) from rfl) (fun _ => ?_) (fun q => absurd (by rw [hk2]; exact Int32.le_refl _) q)
      exact retv_ok X hr hlk (dk rfl) ⟨rfl, S1, f1⟩ (Nat.le_of_ble_eq_true rfl) (Nat.le_of_ble_eq_true rfl)
    | succ d ih =>
      intro k t h1 hd hk hak S1 f1 eU l hl
      have p1 := f1.keep S o1 (by decide) (by decide)
      have p2 := f1.keep S o2 (by decide) (by decide)
      obtain ⟨y, hy⟩ : ∃ y, nz[k]? = some y := ⟨_, List.getElem?_eq_getElem (by omega)⟩
      have hok := hN.2 y (List.mem_of_getElem? hy)
      have hyx := hok.lt
      have hyin : y ∈ (nz.drop a).take (b - a) := by
        refine List.mem_of_getElem? (i := k - a) ?_
        rw [List.getElem?_take_of_lt (by omega), List.getElem?_drop, show a + (k - a) = k by omega]
        exact hy
      rw [drop_cons hy, show b - k = (b - (k + 1)) + 1 by omega, List.take_succ_cons] at eU
      have hN1 : TN (upF F i2 t i1) nz := by rw [upF_ne _ _ h12]; exact hN
      refine WS.sel [5, 4, 3, 1, 0] hl ?_
      iterate 2 refine fst1_ok X (dk rfl) rfl ?_
      refine br_ok X (dk rfl) rfl (show ((6 : Nat) : Int) + 47 = ((53 : Nat) : Int) from rfl) (fun q => absurd q (nI_ge (by omega) (by omega))) (fun _ => ?_)
      iterate 2 refine fst1_ok X (dk rfl) rfl ?_
      refine callVR_ok (ci := 7) (T := TX5) (N := 3) (av := [vI k]) (r := []) X E (s5_letterAt h1 S1 h1i (nI k)) lkX5_letterAt mlX0_38 lmX5_letterAt lpX5_letterAt ⟨Nat.le_of_ble_eq_true rfl, Nat.le_of_ble_eq_true rfl⟩ ⟨Nat.le_of_ble_eq_true rfl, Nat.le_of_ble_eq_true rfl⟩ rfl ⟨_, (S1 i1 h1i).2.1⟩ (Nat.le_of_ble_eq_true rfl) (dk rfl) ?_
      rintro _ rfl
      rw [hN1.lt hy (by omega)]
      iterate 2 refine fst1_ok X (dk rfl) rfl ?_
      refine callNR_ok (av := [vI y]) (r := []) X E (s6_isName h1 (x := y) (by omega)) lkX6_isName mnX0_23 lsX6_isName ⟨Nat.le_of_ble_eq_true rfl, Nat.le_of_ble_eq_true rfl⟩ ⟨Nat.le_of_ble_eq_true rfl, Nat.le_of_ble_eq_true rfl⟩ (Nat.le_of_ble_eq_true rfl) (dk rfl) ?_
      rintro _ rfl
      have f3 : Value.int (nI k + Int32.ofInt 1) = vI (k + 1) := congrArg Value.int (by rw [nI_1', nI_add])
      have nxt : ∀ (h2 : AH), TS B Q h2 (upF F i2 (if y < 8 then addT (rmI i2) t (F (f + y)) else addC (rmI i2) t (nI y))) → FrT B Q h1 h2 → ∀ l : List (Nat × Value), lsel l [5, 4, 3, 1, 0] = [(5, vI k), (4, .ref (B i2)), (3, vI b), (1, .ref (B i1)), (0, .ref o)] → WR p la e (rmD 2 0 0) s m args below meth c D cA B0 7 (TP B Q (upF F i2 (auC (rmI i2) F f (F i2) ((nz.drop a).take (b - a)))) h) 47 l [] h2 0 0 := by
        intro h2 S2 f2 l hl
        refine WS.sel [5, 4, 3, 1, 0] hl ?_
        refine fst1_ok X (dk rfl) rfl ?_
        refine br_ok X (dk rfl) rfl (show ((50 : Nat) : Int) + (-47) = ((3 : Nat) : Int) from rfl) (fun _ => ?_) (fun q => absurd trivial q)
        refine WS.sel (l' := [(5, vI (k + 1)), (4, .ref (B i2)), (3, vI b), (1, .ref (B i1)), (0, .ref o)]) [5, 4, 3, 1, 0] (by rw [← f3]; rfl) ?_
        exact ih (k + 1) _ h2 (by omega) (by omega) (by omega) S2 (f1.trans f2) eU _ rfl
      by_cases h8 : y < 8
      · rw [decide_eq_true h8]
        rw [if_pos h8] at nxt
        refine br_ok X (dk rfl) rfl (show ((22 : Nat) : Int) + 18 = ((40 : Nat) : Int) from rfl) (fun q => absurd q bI_t) (fun _ => ?_)
        iterate 2 refine fst1_ok X (dk rfl) rfl ?_
        refine getf_ok X flX0_11 (dk rfl) p1 rfl ?_
        refine fst1_ok X (dk rfl) rfl ?_
        refine aldr_ok X (Or.inl rfl) (dk rfl) p2 (by omega) (rgB_get B f (k := y) (by omega)) ?_
        refine callVT_ok (ci := 7) (T := TX5) (N := 3) (av := [.ref (B (f + y))]) (r := []) X E (s5_addTerm h1 Y S1 h2i (j := f + y) (by omega) (h2f y hyin h8)) lkX5_addTerm mlX0_64 lmX5_addTerm lpX5_addTerm ⟨Nat.le_of_ble_eq_true rfl, Nat.le_of_ble_eq_true rfl⟩ ⟨Nat.le_of_ble_eq_true rfl, Nat.le_of_ble_eq_true rfl⟩ rfl (S1 i2 h2i).2.1 (Nat.le_of_ble_eq_true rfl) (dk rfl) (fun h2 S2 f2 => ?_)
        rw [upF_self, upF_up, upF_ne _ _ (h2f y hyin h8)] at S2
        refine br_ok X (dk rfl) rfl (show ((37 : Nat) : Int) + 10 = ((47 : Nat) : Int) from rfl) (fun _ => ?_) (fun q => absurd trivial q)
        exact nxt h2 S2 f2 _ rfl
      · rw [decide_eq_false h8]
        rw [if_neg h8] at nxt
        refine br_ok X (dk rfl) rfl (show ((22 : Nat) : Int) + 18 = ((40 : Nat) : Int) from rfl) (fun _ => ?_) (fun q => absurd bI_f' q)
        iterate 2 refine fst1_ok X (dk rfl) rfl ?_
        refine callVT_ok (ci := 7) (T := TX5) (N := 3) (av := [vI y]) (r := []) X E (s5_add h1 Y S1 h2i (nI y)) lkX5_add mlX0_67 lmX5_add lpX5_add ⟨Nat.le_of_ble_eq_true rfl, Nat.le_of_ble_eq_true rfl⟩ ⟨Nat.le_of_ble_eq_true rfl, Nat.le_of_ble_eq_true rfl⟩ rfl (S1 i2 h2i).2.1 (Nat.le_of_ble_eq_true rfl) (dk rfl) (fun h2 S2 f2 => ?_)
        rw [upF_self, upF_up] at S2
        exact nxt h2 S2 f2 _ rfl
  iterate 2 refine fst1_ok X (dk rfl) rfl ?_
  exact loop _ a (F i2) h rfl hab (Nat.le_refl _) (by rw [upF_same]; exact S) (FrT.rf h) rfl _ rfl
/-- an answer that is made out of places -/
def whC (B Q : Nat → Nat) (F : Nat → TC) (f : Nat) (E : Nat → List Nat) (h : AH) (v : Option Value) (h' : AH) : Prop := v = none ∧ FrT B Q h h' ∧ ∃ G : Nat → TC, TS B Q h' (upK F f G 8) ∧ ∀ n, n < 8 → RP16 (G n) (E n)
set_option maxHeartbeats 64000000 in
theorem s0_becomeWholeOf (h : AH) (Y : LYO B Q) (S : TS B Q h F) {o f : Nat} (O : AnO B h o f) (hrm : ∀ n, n < 8 → rmI (f + n) = 16) {ib : Nat} (hib : ib < 52) (hbf : ib < f ∨ f + 8 ≤ ib) {Xx : List Nat} (hX : BX Xx) (hN : TN (F ib) Xx) {R : Nat} {row : List Int32} {Sx : SS} (hR : h R = some (107, row.map Value.int)) (hrl : row.length = 8) (hrv : ∀ n, n < 8 → row[n]? = some (pI (Sx n))) (hRQ : ∀ i, i < 52 → R ≠ Q i) (hS : S1 Xx Sx) (hA : Ac Xx Sx) {Ex : Nat → List Nat} (hE : ExP Xx Sx Ex) : CT la D cA B0 pa yX0_becomeWholeOf cX0_becomeWholeOf 8 none (rmD 3 0 0) [.ref o, .ref (B ib), .ref R] h (whC B Q F f Ex h) := by
  refine CT_of (by decide +kernel) (Nat.le_of_ble_eq_true rfl) ?_
  intro p e s m args below meth c X E hr hlk hnm
  have dk : ∀ {pc : Nat} {q : Instr × Nat}, lkd DX0_becomeWholeOf pc = some q → decode cX0_becomeWholeOf pc = .ok q := lkd_ok DX0_becomeWholeOf_ok
  obtain ⟨of, arr, o1, o2⟩ := id O
  obtain ⟨rk, K, rk1, rk2⟩ := hA.rk hX hS
  have hX32 := hX.2.2
  have tw := hE.tw hX hS hA
  have hrow : ∀ {hh : AH}, FrT B Q h hh → hh R = some (107, row.map Value.int) := fun {hh} f1 => by
    rw [f1 R (fun i hi => ⟨k_ne hR (S i hi).2.1 (by decide), hRQ i hi⟩)]
    exact hR
  have outer : ∀ (d t mk : Nat) (G : Nat → TC) (h1 : AH), d + t = 8 → mk < 256 → ((∀ y, y < 8 → bt mk y) ∨ t ≤ bc8 mk) → (∀ n, n < 8 → bt mk n → RP16 (G n) (Ex n)) → TS B Q h1 (upK F f G 8) → FrT B Q h h1 → ∀ l : List (Nat × Value), lsel l [4, 3, 2, 1, 0] = [(4, vI t), (3, vI mk), (2, .ref R), (1, .ref (B ib)), (0, .ref o)] → WR p la e (rmD 3 0 0) s m args below meth c D cA B0 8 (whC B Q F f Ex h) 5 l [] h1 0 0 := by
    intro d
    induction d with
    | zero =>
      intro t mk G h1 hd hm hb hG S1 f1 l hl
      have ht : t = 8 := by omega
      subst ht
      have hall : ∀ n, n < 8 → bt mk n := fun n hn => hb.elim (fun z => z n hn) (fun z => bc_8 z hn)
      refine WS.sel [4, 3, 2, 1, 0] hl ?_
      iterate 2 refine fst1_ok X (dk rfl) rfl ?_
      refine br_ok X (dk rfl) rfl (show ((9 : Nat) : Int) + 131 = ((140 : Nat) : Int) from rfl) (fun _ => ?_) (fun q => absurd (by rw [nI_8']; exact Int32.le_refl _) q)
      exact retv_ok X hr hlk (dk rfl) (⟨rfl, f1, G, S1, fun n hn => hG n hn (hall n hn)⟩) (Nat.le_of_ble_eq_true rfl) (Nat.le_of_ble_eq_true rfl)
    | succ d ih =>
      intro t mk0 G0 h0 hd hm0 hb hG0 S0 f0 l hl
      refine WS.sel [4, 3, 2, 1, 0] hl ?_
      iterate 2 refine fst1_ok X (dk rfl) rfl ?_
      refine br_ok X (dk rfl) rfl (show ((9 : Nat) : Int) + 131 = ((140 : Nat) : Int) from rfl) (fun q => absurd q (by rw [nI_8']; exact nI_ge (by omega) (by omega))) (fun _ => ?_)
      have ft : Value.int (nI t + Int32.ofInt 1) = vI (t + 1) := congrArg Value.int (by rw [nI_1', nI_add])
      have inner : ∀ (u n mk : Nat) (G : Nat → TC) (h1 : AH), u + n = 8 → mk < 256 → (∀ y, bt mk0 y → bt mk y) → (∀ y, y < n → (∀ q, Sx y = some q → ∀ z ∈ sub' Xx q, z < 8 → bt mk0 z) → bt mk y) → (∀ y, y < 8 → bt mk y → RP16 (G y) (Ex y)) → TS B Q h1 (upK F f G 8) → FrT B Q h h1 → ∀ l : List (Nat × Value), lsel l [5, 4, 3, 2, 1, 0] = [(5, vI n), (4, vI t), (3, vI mk), (2, .ref R), (1, .ref (B ib)), (0, .ref o)] → WR p la e (rmD 3 0 0) s m args below meth c D cA B0 8 (whC B Q F f Ex h) 15 l [] h1 0 0 := by
        intro u
        induction u with
        | zero =>
          intro n mk G h1 hn hm hsub hdn hG S1 f1 l hl
          have hn8 : n = 8 := by omega
          subst hn8
          refine WS.sel [5, 4, 3, 2, 1, 0] hl ?_
          iterate 2 refine fst1_ok X (dk rfl) rfl ?_
          refine br_ok X (dk rfl) rfl (show ((19 : Nat) : Int) + 115 = ((134 : Nat) : Int) from rfl) (fun _ => ?_) (fun q => absurd (by rw [nI_8']; exact Int32.le_refl _) q)
          refine fst1_ok X (dk rfl) rfl ?_
          refine br_ok X (dk rfl) rfl (show ((137 : Nat) : Int) + (-132) = ((5 : Nat) : Int) from rfl) (fun _ => ?_) (fun q => absurd trivial q)
          refine WS.sel (l' := [(4, vI (t + 1)), (3, vI mk), (2, .ref R), (1, .ref (B ib)), (0, .ref o)]) [4, 3, 2, 1, 0] (by rw [← ft]; rfl) ?_
          refine ih (t + 1) mk G h1 (by omega) hm ?_ hG S1 f1 _ rfl
          by_cases hall : ∀ y, y < 8 → bt mk y
          · exact Or.inl hall
          · refine Or.inr ?_
            have hall0 : ¬ ∀ y, y < 8 → bt mk0 y := fun z => hall (fun y hy => hsub y (z y hy))
            obtain ⟨y, c⟩ := Classical.not_forall.mp hall0
            obtain ⟨hy, c⟩ := Classical.not_imp.mp c
            obtain ⟨n', g1, g2, g3⟩ := rdy_ex hX hS rk2 K y (rk1 y) hy c
            have g4 := hdn n' g1 g3
            have g5 := bc_lt hm0 hm hsub (fun z => g2 (by rw [z]; exact g4))
            have g6 := hb.resolve_left hall0
            omega
        | succ u ihe =>
          intro n mk G h1 hn hm hsub hdn hG S1 f1 l hl
          have p1 := f1.keep S o1 (by decide) (by decide)
          have p2 := f1.keep S o2 (by decide) (by decide)
          have eb : upK F f G 8 ib = F ib := upK_out F f _ hbf
          have hN1 : TN (upK F f G 8 ib) Xx := by rw [eb]; exact hN
          have hr := hrow f1
          have fn : Value.int (nI n + Int32.ofInt 1) = vI (n + 1) := congrArg Value.int (by rw [nI_1', nI_add])
          have nxt : ∀ (mk2 : Nat) (G2 : Nat → TC) (h2 : AH), mk2 < 256 → (∀ y, bt mk y → bt mk2 y) → ((∀ q, Sx n = some q → ∀ z ∈ sub' Xx q, z < 8 → bt mk0 z) → bt mk2 n) → (∀ y, y < 8 → bt mk2 y → RP16 (G2 y) (Ex y)) → TS B Q h2 (upK F f G2 8) → FrT B Q h h2 → ∀ l : List (Nat × Value), lsel l [5, 4, 3, 2, 1, 0] = [(5, vI n), (4, vI t), (3, vI mk2), (2, .ref R), (1, .ref (B ib)), (0, .ref o)] → WR p la e (rmD 3 0 0) s m args below meth c D cA B0 8 (whC B Q F f Ex h) 128 l [] h2 0 0 := by
            intro mk2 G2 h2 k1 k2 k3 k4 k5 k6 l hl
            refine WS.sel [5, 4, 3, 2, 1, 0] hl ?_
            refine fst1_ok X (dk rfl) rfl ?_
            refine br_ok X (dk rfl) rfl (show ((131 : Nat) : Int) + (-116) = ((15 : Nat) : Int) from rfl) (fun _ => ?_) (fun q => absurd trivial q)
            refine WS.sel (l' := [(5, vI (n + 1)), (4, vI t), (3, vI mk2), (2, .ref R), (1, .ref (B ib)), (0, .ref o)]) [5, 4, 3, 2, 1, 0] (by rw [← fn]; rfl) ?_
            exact ihe (n + 1) mk2 G2 h2 (by omega) k1 (fun y hy => k2 y (hsub y hy)) (fun y hy hh => by
              rcases Nat.lt_or_ge y n with z | z
              · exact k2 y (hdn y z hh)
              · have : y = n := by omega
                subst this
                exact k3 hh) k4 k5 k6 _ rfl
          refine WS.sel [5, 4, 3, 2, 1, 0] hl ?_
          iterate 2 refine fst1_ok X (dk rfl) rfl ?_
          refine br_ok X (dk rfl) rfl (show ((19 : Nat) : Int) + 115 = ((134 : Nat) : Int) from rfl) (fun q => absurd q (by rw [nI_8']; exact nI_ge (by omega) (by omega))) (fun _ => ?_)
          iterate 2 refine fst1_ok X (dk rfl) rfl ?_
          refine alen7_ok X (dk rfl) hr hrl ?_
          refine br_ok X (dk rfl) rfl (show ((26 : Nat) : Int) + 108 = ((134 : Nat) : Int) from rfl) (fun q => absurd q (nI_ge (by omega) (by omega))) (fun _ => ?_)
          iterate 2 refine fst1_ok X (dk rfl) rfl ?_
          refine ald7v_ok X (dk rfl) hr (nI_pos (by omega)) (by rw [nI_clamp (by omega)]; exact hrv n (by omega)) ?_
          iterate 3 refine fst1_ok X (dk rfl) rfl ?_
          cases hs : Sx n with
          | none =>
            rw [pI_none]
            refine callVR_ok (ci := 7) (T := TX5) (N := 3) (av := [.int (Int32.ofInt (-1))]) (r := []) X E (s5_endOfN h1 S1 hib hN1) lkX5_endOf mlX0_81 lmX5_endOf lpX5_endOf ⟨Nat.le_of_ble_eq_true rfl, Nat.le_of_ble_eq_true rfl⟩ ⟨Nat.le_of_ble_eq_true rfl, Nat.le_of_ble_eq_true rfl⟩ rfl ⟨_, (S1 ib hib).2.1⟩ (Nat.le_of_ble_eq_true rfl) (dk rfl) ?_
            rintro _ rfl
            iterate 3 refine fst1_ok X (dk rfl) rfl ?_
            refine br_ok X (dk rfl) rfl (show ((46 : Nat) : Int) + 25 = ((71 : Nat) : Int) from rfl) (fun q => absurd rfl q) (fun _ => ?_)
            refine fst1_ok X (dk rfl) rfl ?_
            refine getf_ok X flX0_11 (dk rfl) p1 rfl ?_
            refine fst1_ok X (dk rfl) rfl ?_
            refine aldr_ok X (Or.inl rfl) (dk rfl) p2 (by omega) (rgB_get B f (k := n) (by omega)) ?_
            refine fst1_ok X (dk rfl) rfl ?_
            refine callVT_ok (ci := 7) (T := TX5) (N := 3) (av := [vI n]) (r := []) X E (s5_becomeName h1 Y S1 (i := f + n) (by omega) (nI n)) lkX5_becomeName mlX0_20 lmX5_becomeName lpX5_becomeName ⟨Nat.le_of_ble_eq_true rfl, Nat.le_of_ble_eq_true rfl⟩ ⟨Nat.le_of_ble_eq_true rfl, Nat.le_of_ble_eq_true rfl⟩ rfl (S1 (f + n) (by omega)).2.1 (Nat.le_of_ble_eq_true rfl) (dk rfl) (fun h2 S2 f2 => ?_)
            rw [upK_one (by omega)] at S2
            iterate 6 refine fst1_ok X (dk rfl) rfl ?_
            rw [shl1 n (by omega), nI_or]
            refine br_ok X (dk rfl) rfl (show ((68 : Nat) : Int) + 60 = ((128 : Nat) : Int) from rfl) (fun _ => ?_) (fun q => absurd trivial q)
            have en : Ex n = [n] := by rw [hE n, hs]
            refine nxt (mk ||| 2 ^ n) _ h2 (set_lt hm (by omega)) (fun y hy => (bt_or _ _ _).mpr (Or.inl hy)) (fun _ => (bt_set (by omega)).mpr (Or.inr rfl)) (fun y hy hb2 => ?_) S2 (f1.trans f2) _ rfl
            by_cases e9 : y = n
            · rw [if_pos e9, e9, en]
              exact Or.inl ⟨Nat.le_of_ble_eq_true rfl, rfl⟩
            · rw [if_neg e9]
              exact hG y hy (((bt_set (by omega)).mp hb2).resolve_right e9)
          | some q =>
            have hql := (hS n q hs).2.1
            obtain ⟨t1, t2, t3⟩ := bx_tl hX hql
            rw [pI_some]
            refine callVR_ok (ci := 7) (T := TX5) (N := 3) (av := [vI q]) (r := []) X E (s5_endOf h1 S1 hib hN1 t1) lkX5_endOf mlX0_81 lmX5_endOf lpX5_endOf ⟨Nat.le_of_ble_eq_true rfl, Nat.le_of_ble_eq_true rfl⟩ ⟨Nat.le_of_ble_eq_true rfl, Nat.le_of_ble_eq_true rfl⟩ rfl ⟨_, (S1 ib hib).2.1⟩ (Nat.le_of_ble_eq_true rfl) (dk rfl) ?_
            rintro _ rfl
            iterate 3 refine fst1_ok X (dk rfl) rfl ?_
            refine br_ok X (dk rfl) rfl (show ((46 : Nat) : Int) + 25 = ((71 : Nat) : Int) from rfl) (fun _ => ?_) (fun q => absurd (nI_m1 (by omega)) q)
            iterate 5 refine fst1_ok X (dk rfl) rfl ?_
            rw [bit8 hm (by omega)]
            by_cases hbn : bt mk n
            · rw [show mk >>> n % 2 = 1 from hbn]
              refine br_ok X (dk rfl) rfl (show ((77 : Nat) : Int) + 51 = ((128 : Nat) : Int) from rfl) (fun _ => ?_) (fun q => absurd (by decide) q)
              exact nxt mk G h1 hm (fun y hy => hy) (fun _ => hbn) hG S1 f1 _ rfl
            · have h0 : mk >>> n % 2 = 0 := by
                have := Nat.mod_two_eq_zero_or_one (mk >>> n)
                rcases this with z | z
                · exact z
                · exact absurd z hbn
              rw [h0]
              refine br_ok X (dk rfl) rfl (show ((77 : Nat) : Int) + 51 = ((128 : Nat) : Int) from rfl) (fun q => absurd (show nI 0 = 0 by decide) q) (fun _ => ?_)
              iterate 3 refine fst1_ok X (dk rfl) rfl ?_
              refine callVR_ok (ci := 7) (T := TX5) (N := 3) (av := [vI q, vI (q + tl Xx q)]) (r := []) X E (s5_namesIn h1 S1 hib hN1 (a := q) (b := q + tl Xx q) (by omega) t3) lkX5_namesIn mlX0_95 lmX5_namesIn lpX5_namesIn ⟨Nat.le_of_ble_eq_true rfl, Nat.le_of_ble_eq_true rfl⟩ ⟨Nat.le_of_ble_eq_true rfl, Nat.le_of_ble_eq_true rfl⟩ rfl ⟨_, (S1 ib hib).2.1⟩ (Nat.le_of_ble_eq_true rfl) (dk rfl) ?_
              rintro _ rfl
              rw [Nat.add_sub_cancel_left, show (Xx.drop q).take (tl Xx q) = sub' Xx q from rfl]
              iterate 4 refine fst1_ok X (dk rfl) rfl ?_
              have tq := sub_TW hX hql
              have hin := in_set (namesN_lt tq.2) hm
              by_cases hall : ∀ y, y < 8 → bt (namesN (sub' Xx q)) y → bt mk y
              · refine br_ok X (dk rfl) rfl (show ((92 : Nat) : Int) + 36 = ((128 : Nat) : Int) from rfl) (fun q => absurd (hin.mpr hall) q) (fun _ => ?_)
                refine fst1_ok X (dk rfl) rfl ?_
                refine getf_ok X flX0_11 (dk rfl) p1 rfl ?_
                refine fst1_ok X (dk rfl) rfl ?_
                refine aldr_ok X (Or.inl rfl) (dk rfl) p2 (by omega) (rgB_get B f (k := n) (by omega)) ?_
                refine callVT_ok (ci := 7) (T := TX5) (N := 3) (av := []) (r := []) X E (s5_empty h1 Y S1 (i := f + n) (by omega)) lkX5_empty mlX0_57 lmX5_empty lpX5_empty ⟨Nat.le_of_ble_eq_true rfl, Nat.le_of_ble_eq_true rfl⟩ ⟨Nat.le_of_ble_eq_true rfl, Nat.le_of_ble_eq_true rfl⟩ rfl (S1 (f + n) (by omega)).2.1 (Nat.le_of_ble_eq_true rfl) (dk rfl) (fun h2 S2 f2 => ?_)
                rw [upK_one (by omega)] at S2
                have q1 := (f1.trans f2).keep S o1 (by decide) (by decide)
                have q2 := (f1.trans f2).keep S o2 (by decide) (by decide)
                iterate 5 refine fst1_ok X (dk rfl) rfl ?_
                refine getf_ok X flX0_11 (dk rfl) q1 rfl ?_
                refine fst1_ok X (dk rfl) rfl ?_
                refine aldr_ok X (Or.inl rfl) (dk rfl) q2 (by omega) (rgB_get B f (k := n) (by omega)) ?_
                have eb2 : upK F f (fun y => if y = n then (([], false) : TC) else G y) 8 ib = F ib := upK_out F f _ hbf
                have hN2 : TN (upK F f (fun y => if y = n then (([], false) : TC) else G y) 8 ib) Xx := by rw [eb2]; exact hN
                have hmem : ∀ y ∈ (Xx.drop q).take (q + tl Xx q - q), y ∈ sub' Xx q := fun y hy => by rw [Nat.add_sub_cancel_left] at hy; exact hy
                have hne : ∀ y ∈ sub' Xx q, y < 8 → y ≠ n := fun y hy h8 z => by
                  have := rk2 n q hs y hy (by omega)
                  rw [z] at this
                  exact absurd this (Nat.lt_irrefl _)
                refine callVT_ok (ci := 2) (T := TX0) (N := 1) (av := [.ref (B ib), vI q, vI (q + tl Xx q), .ref (B (f + n))]) (r := []) X E (s0_addUsedT h2 Y S2 (O.keep S (f1.trans f2)) hib hN2 (i2 := f + n) (by omega) (by omega) (a := q) (b := q + tl Xx q) (by omega) t3 (fun y hy h8 z => hne y (hmem y hy) h8 (by omega))) lkX0_addUsed mlX0_60 lmX0_addUsed lpX0_addUsed ⟨Nat.le_of_ble_eq_true rfl, Nat.le_of_ble_eq_true rfl⟩ ⟨Nat.le_of_ble_eq_true rfl, Nat.le_of_ble_eq_true rfl⟩ rfl (O.keep S (f1.trans f2)).2.choose_spec.1 (Nat.le_of_ble_eq_true rfl) (dk rfl) (fun h3 S3 f3 => ?_)
                rw [Nat.add_sub_cancel_left, show (Xx.drop q).take (tl Xx q) = sub' Xx q from rfl, hrm n (by omega), upK_in F f _ (show n < 8 by omega), upK_one (by omega), if_pos rfl] at S3
                iterate 6 refine fst1_ok X (dk rfl) rfl ?_
                rw [shl1 n (by omega), nI_or]
                have en : Ex n = exF Ex (sub' Xx q) := by rw [hE n, hs]
                refine nxt (mk ||| 2 ^ n) _ h3 (set_lt hm (by omega)) (fun y hy => (bt_or _ _ _).mpr (Or.inl hy)) (fun _ => (bt_set (by omega)).mpr (Or.inr rfl)) (fun y hy hb2 => ?_) S3 ((f1.trans f2).trans f3) _ rfl
                by_cases e9 : y = n
                · rw [if_pos e9, e9, en]
                  have := auC_rep (u := f) (F := upK F f (fun y => if y = n then (([], false) : TC) else G y) 8) (E := Ex) (sub' Xx q) ([], false) [] tq.2 (fun z hz h8 => by
                    rw [upK_in F f _ h8]
                    show RP16 (if z = n then (([], false) : TC) else G z) (Ex z)
                    rw [if_neg (hne z hz h8)]
                    exact hG z h8 (hall z h8 ((namesN_mem (by omega) _).mpr hz))) (Or.inl ⟨Nat.zero_le _, rfl⟩)
                  exact this
                · rw [if_neg e9, if_neg e9]
                  exact hG y hy (((bt_set (by omega)).mp hb2).resolve_right e9)
              · refine br_ok X (dk rfl) rfl (show ((92 : Nat) : Int) + 36 = ((128 : Nat) : Int) from rfl) (fun _ => ?_) (fun q => absurd (fun z => hall (hin.mp z)) q)
                exact nxt mk G h1 hm (fun y hy => hy) (fun hh => absurd (fun y hy hb2 => hsub y (hh q hs y ((namesN_mem (by omega) _).mp hb2) hy)) hall) hG S1 f1 _ rfl
      iterate 2 refine fst1_ok X (dk rfl) rfl ?_
      exact inner 8 0 mk0 G0 h0 rfl hm0 (fun y hy => hy) (fun y hy => absurd hy (Nat.not_lt_zero y)) hG0 S0 f0 _ rfl
  iterate 4 refine fst1_ok X (dk rfl) rfl ?_
  refine outer 8 0 0 (fun n => F (f + n)) h rfl (by decide) (Or.inr (Nat.zero_le _)) (fun n hn hb => ?_) ?_ (FrT.rf h) _ rfl
  · unfold bt at hb
    rw [Nat.zero_shiftRight] at hb
    cases hb
  · have e0 : upK F f (fun n => F (f + n)) 8 = F := by
      funext j
      by_cases hj : f ≤ j ∧ j < f + 8
      · obtain ⟨n, rfl⟩ : ∃ n, j = f + n := ⟨j - f, by omega⟩
        rw [upK_in F f _ (by omega)]
      · rw [upK_out F f _ (by omega)]
    rw [e0]
    exact S
end S16
