/-! texts, size, knock of the class, strongly (printed by wip/p20/genD11.py) -/
abbrev LR0 (x : Int32) : Prop := LR x
theorem ltX_LR {ns : List Nat} (h : ∀ x ∈ ns, okL x) (x : Int32) : LR0 (ltX (ns.map nI) x) := by
  unfold ltX
  split
  · exact LR_9
  · cases e : (ns.map nI)[x.toNatClampNeg]? with
    | none => exact LR_9
    | some y =>
      obtain ⟨z, hz, rfl⟩ := List.mem_map.mp (List.mem_of_getElem? e)
      have := (h z hz).lt
      exact LR_nI (by omega)
section F11
variable {la : Launch} {D : va_G} {cA : Nat → ClassId} {B0 pa : Nat} {Γ : TY}
set_option maxHeartbeats 8000000 in
theorem FZ.c6_written (h : AH) (I : Tyg Γ h) {o0 : Nat} {w0 : Bool} (T0 : TermG w0 Γ o0 16) (HL : ∀ (h2 : AH), Tyg Γ h2 → ∀ j : Nat, ∃ x : Int32, LR0 x ∧ CT la D cA B0 pa yX5_letterAt cX5_letterAt 2 (some .int) (rmD 0 0 0) [.ref o0, vI j] h2 (RP (.int x) h2)) : CT la D cA B0 pa yX6_written cX6_written 6 (some (.object "java/lang/String")) (rmD 6 156 46400) [.ref o0] h (WrO Γ (fun v => ∃ sa : Nat, v = some (.ref sa)) h) := by
  refine CT_of (by decide +kernel) (Nat.le_of_ble_eq_true rfl) ?_
  intro p e s m args below meth c X E hr hlk hnm
  have dk : ∀ {pc : Nat} {q : Instr × Nat}, lkd DX6_written pc = some q → decode cX6_written pc = .ok q := lkd_ok DX6_written_ok
  obtain ⟨hL, q, gb, gl⟩ := id T0
  refine newSB_ok X E ncX6_332 mlX6_334 (dk rfl) (dk rfl) (dk rfl) ⟨Nat.le_of_ble_eq_true rfl, Nat.le_of_ble_eq_true rfl⟩ ⟨Nat.le_of_ble_eq_true rfl, Nat.le_of_ble_eq_true rfl⟩ (Nat.le_of_ble_eq_true rfl) (fun b h1 S1 => ?_)
  iterate 3 refine fst1_ok X (dk rfl) rfl ?_
  have loop : ∀ (d i nn : Nat) (hc : AH), 16 - i ≤ d → i ≤ 16 → nn ≤ wsum i → SBst h hc b nn → ∀ (l : List (Nat × Value)), lsel l [2, 1, 0] = [(2, vI i), (1, .ref b), (0, .ref o0)] → WR p la e (rmD 6 156 46400) s m args below meth c D cA B0 6 (WrO Γ (fun v => ∃ sa : Nat, v = some (.ref sa)) h) 10 l [] hc (2 + wsum i) (20 + 304 * wsum i) := by
    intro d
    induction d with
    | zero =>
      intro i nn hc hd hi hnn S l hl
      have hi2 : i = 16 := by omega
      have hw := wsum_le i hi
      have Ic := S.base.tyg I
      refine WS.sel [2, 1, 0] hl ?_
      iterate 2 refine fst1_ok X (dk rfl) rfl ?_
      refine callVR_ok (ci := 7) (T := TX5) (N := 3) (av := []) (r := [vI i]) X E (c5_length hc Ic T0) lkX5_length mlX6_76 lmX5_length lpX5_length ⟨Nat.le_of_ble_eq_true rfl, Nat.le_of_ble_eq_true rfl⟩ ⟨by show _ ≤ 156; omega, by show _ ≤ 46400; omega⟩ rfl (tm_cell Ic gb) (Nat.le_of_ble_eq_true rfl) (dk rfl) ?_
      rintro _ ⟨z, hz, rfl⟩
      refine br_ok X (dk rfl) rfl (show ((15 : Nat) : Int) + 88 = ((103 : Nat) : Int) from rfl) (fun _ => ?_) (fun q => absurd ((nI_leI (by omega) (by omega)).mpr (by omega)) q)
      refine fst1_ok X (dk rfl) rfl ?_
      refine toS_ok X E S mlX6_345 ⟨Nat.le_of_ble_eq_true rfl, Nat.le_of_ble_eq_true rfl⟩ ⟨by show 2 + wsum i + 2 ≤ 156; omega, by show 20 + 304 * wsum i + (4 + nn) ≤ 46400; omega⟩ (Nat.le_of_ble_eq_true rfl) (dk rfl) (fun sa h4 S4 => ?_)
      obtain ⟨sa2, va2, -, -, -, -, XQ⟩ := id S4
      exact reta_ok X hr hlk (Or.inl ⟨_, rfl⟩) (Or.inr ⟨_, rfl⟩) (dk rfl) ⟨⟨_, rfl⟩, Ext.ti XQ I⟩ (by show 2 + wsum i + 2 ≤ 156; omega) (by show 20 + 304 * wsum i + (4 + nn) ≤ 46400; omega)
    | succ d ih =>
      intro i nn hc hd hi hnn S l hl
      have hw := wsum_le i hi
      have Ic := S.base.tyg I
      refine WS.sel [2, 1, 0] hl ?_
      iterate 2 refine fst1_ok X (dk rfl) rfl ?_
      refine callVR_ok (ci := 7) (T := TX5) (N := 3) (av := []) (r := [vI i]) X E (c5_length hc Ic T0) lkX5_length mlX6_76 lmX5_length lpX5_length ⟨Nat.le_of_ble_eq_true rfl, Nat.le_of_ble_eq_true rfl⟩ ⟨by show _ ≤ 156; omega, by show _ ≤ 46400; omega⟩ rfl (tm_cell Ic gb) (Nat.le_of_ble_eq_true rfl) (dk rfl) ?_
      rintro _ ⟨z, hz, rfl⟩
      refine br_ok X (dk rfl) rfl (show ((15 : Nat) : Int) + 88 = ((103 : Nat) : Int) from rfl) (fun c1 => ?_) (fun c1 => ?_)
      · refine fst1_ok X (dk rfl) rfl ?_
        refine toS_ok X E S mlX6_345 ⟨Nat.le_of_ble_eq_true rfl, Nat.le_of_ble_eq_true rfl⟩ ⟨by show 2 + wsum i + 2 ≤ 156; omega, by show 20 + 304 * wsum i + (4 + nn) ≤ 46400; omega⟩ (Nat.le_of_ble_eq_true rfl) (dk rfl) (fun sa h4 S4 => ?_)
        obtain ⟨sa2, va2, -, -, -, -, XQ⟩ := id S4
        exact reta_ok X hr hlk (Or.inl ⟨_, rfl⟩) (Or.inr ⟨_, rfl⟩) (dk rfl) ⟨⟨_, rfl⟩, Ext.ti XQ I⟩ (by show 2 + wsum i + 2 ≤ 156; omega) (by show 20 + 304 * wsum i + (4 + nn) ≤ 46400; omega)
      · have hi16 : i < 16 := by
          rcases Nat.lt_or_ge i z with q | q
          · omega
          · exact absurd ((nI_leI (by omega) (by omega)).mpr q) c1
        have hw1 : wsum i + (i + 2) ≤ 152 := wsum_le (i + 1) (by omega)
        iterate 2 refine fst1_ok X (dk rfl) rfl ?_
        obtain ⟨x, hx, HC⟩ := HL hc Ic i
        refine callVR_ok (ci := 7) (T := TX5) (N := 3) (av := [vI i]) (r := []) X E HC lkX5_letterAt mlX6_132 lmX5_letterAt lpX5_letterAt ⟨Nat.le_of_ble_eq_true rfl, Nat.le_of_ble_eq_true rfl⟩ ⟨by show 2 + wsum i ≤ 156; omega, by show 20 + 304 * wsum i ≤ 46400; omega⟩ rfl (tm_cell Ic gb) (Nat.le_of_ble_eq_true rfl) (dk rfl) ?_
        rintro _ rfl
        iterate 3 refine fst1_ok X (dk rfl) rfl ?_
        refine callS_ok (av := [.int x]) (r := [.ref b]) X E (c6_signOf _ x hx) lkX6_signOf mlX6_335 lsX6_signOf ⟨Nat.le_of_ble_eq_true rfl, Nat.le_of_ble_eq_true rfl⟩ ⟨by show 2 + wsum i + 0 ≤ 156; omega, by show 20 + 304 * wsum i + 0 ≤ 46400; omega⟩ (Nat.le_of_ble_eq_true rfl) (dk rfl) ?_
        rintro _ _ ⟨⟨c0, hc0, rfl⟩, rfl⟩
        refine appC_ok (N := 152) X E S hc0 (by omega) (by omega) mlX6_338 ⟨Nat.le_of_ble_eq_true rfl, Nat.le_of_ble_eq_true rfl⟩ ⟨by show 2 + wsum i + 0 + 1 ≤ 156; omega, by show 20 + 304 * wsum i + 0 + 2 * 152 ≤ 46400; omega⟩ (Nat.le_of_ble_eq_true rfl) (dk rfl) (fun h2 S2 => ?_)
        refine WS.widen (k' := 2 + wsum i + 1) (n' := 20 + 304 * wsum i + 304) (by show 2 + wsum i + 0 + 1 ≤ _; omega) (by show 20 + 304 * wsum i + 0 + 2 * 152 ≤ _; omega) ?_
        have I2 := S2.base.tyg I
        iterate 2 refine fst1_ok X (dk rfl) rfl ?_
        refine callS_ok (av := [.int x]) (r := []) X E (c6_partsOf _ I2 x) lkX6_partsOf mlX6_91 lsX6_partsOf ⟨Nat.le_of_ble_eq_true rfl, Nat.le_of_ble_eq_true rfl⟩ ⟨by show 2 + wsum i + 1 + 0 ≤ 156; omega, by show 20 + 304 * wsum i + 304 + 0 ≤ 46400; omega⟩ (Nat.le_of_ble_eq_true rfl) (dk rfl) ?_
        rintro _ _ ⟨⟨pz, hpz, rfl⟩, rfl⟩
        have f2 : Value.int (nI i + Int32.ofInt 1) = vI (i + 1) := congrArg Value.int (by rw [nI_1', nI_add])
        have nxt : ∀ (h3 : AH) (n3 : Nat), n3 ≤ wsum i + (i + 2) → SBst h h3 b n3 → ∀ (l : List (Nat × Value)), lsel l [2, 1, 0] = [(2, vI i), (1, .ref b), (0, .ref o0)] → WR p la e (rmD 6 156 46400) s m args below meth c D cA B0 6 (WrO Γ (fun v => ∃ sa : Nat, v = some (.ref sa)) h) 97 l [] h3 (2 + wsum i + (i + 2)) (20 + 304 * wsum i + 304 * (i + 2)) := by
          intro h3 n3 hn3 S3 l hl
          refine WS.sel [2, 1, 0] hl ?_
          refine fst1_ok X (dk rfl) rfl ?_
          refine br_ok X (dk rfl) rfl (show ((100 : Nat) : Int) + (-90) = ((10 : Nat) : Int) from rfl) (fun _ => ?_) (fun q => absurd trivial q)
          refine WS.sel (l' := [(2, vI (i + 1)), (1, .ref b), (0, .ref o0)]) [2, 1, 0] (by rw [← f2]; rfl) ?_
          refine WS.widen (k' := 2 + wsum (i + 1)) (n' := 20 + 304 * wsum (i + 1)) (by show _ ≤ 2 + (wsum i + (i + 2)); omega) (by show _ ≤ 20 + 304 * (wsum i + (i + 2)); omega) ?_
          exact ih (i + 1) n3 h3 (by omega) (by omega) (by show n3 ≤ wsum i + (i + 2); omega) S3 _ rfl
        refine br_ok X (dk rfl) rfl (show ((37 : Nat) : Int) + 13 = ((50 : Nat) : Int) from rfl) (fun c2 => ?_) (fun c2 => ?_)
        · iterate 2 refine fst1_ok X (dk rfl) rfl ?_
          refine callVR_ok (ci := 7) (T := TX5) (N := 3) (av := [vI i]) (r := []) X E (c5_closedBehind _ I2 T0 (nI i)) lkX5_closedBehind mlX6_342 lmX5_closedBehind lpX5_closedBehind ⟨Nat.le_of_ble_eq_true rfl, Nat.le_of_ble_eq_true rfl⟩ ⟨by show 2 + wsum i + 1 + 0 ≤ 156; omega, by show 20 + 304 * wsum i + 304 + 0 ≤ 46400; omega⟩ rfl (tm_cell I2 gb) (Nat.le_of_ble_eq_true rfl) (dk rfl) ?_
          rintro _ ⟨z2, hz2, rfl⟩
          have hz3 : z2 ≤ i := by
            have e : (nI i).toInt = (i : Int) := Int32.toInt_ofNat_of_lt (by omega)
            rw [e] at hz2
            omega
          iterate 3 refine fst1_ok X (dk rfl) rfl ?_
          have inner : ∀ (d t n2 : Nat) (h3 : AH), z2 - t ≤ d → t ≤ z2 → n2 ≤ wsum i + 1 + t → SBst h h3 b n2 → ∀ (l : List (Nat × Value)), lsel l [5, 4, 2, 1, 0] = [(5, vI t), (4, vI z2), (2, vI i), (1, .ref b), (0, .ref o0)] → WR p la e (rmD 6 156 46400) s m args below meth c D cA B0 6 (WrO Γ (fun v => ∃ sa : Nat, v = some (.ref sa)) h) 60 l [] h3 (2 + wsum i + 1 + t) (20 + 304 * wsum i + 304 + 304 * t) := by
            intro d
            induction d with
            | zero =>
              intro t n2 h3 hd2 ht hn2 S3 l hl
              have ht2 : t = z2 := by omega
              subst ht2
              have I3 := S3.base.tyg I
              refine WS.sel [5, 4, 2, 1, 0] hl ?_
              iterate 2 refine fst1_ok X (dk rfl) rfl ?_
              refine br_ok X (dk rfl) rfl (show ((64 : Nat) : Int) + 16 = ((80 : Nat) : Int) from rfl) (fun _ => ?_) (fun q => absurd (Int32.le_refl _) q)
              iterate 4 refine fst1_ok X (dk rfl) rfl ?_
              refine callVR_ok (ci := 7) (T := TX5) (N := 3) (av := []) (r := [.int (nI i + Int32.ofInt 1)]) X E (c5_length h3 I3 T0) lkX5_length mlX6_76 lmX5_length lpX5_length ⟨Nat.le_of_ble_eq_true rfl, Nat.le_of_ble_eq_true rfl⟩ ⟨by show _ ≤ 156; omega, by show _ ≤ 46400; omega⟩ rfl (tm_cell I3 gb) (Nat.le_of_ble_eq_true rfl) (dk rfl) ?_
              rintro _ ⟨z4, hz4, rfl⟩
              refine br_ok X (dk rfl) rfl (show ((87 : Nat) : Int) + 10 = ((97 : Nat) : Int) from rfl) (fun c4 => ?_) (fun c4 => ?_)
              · refine WS.widen (k' := 2 + wsum i + (i + 2)) (n' := 20 + 304 * wsum i + 304 * (i + 2)) (by show 2 + wsum i + 1 + t ≤ _; omega) (by show 20 + 304 * wsum i + 304 + 304 * t ≤ _; omega) ?_
                exact nxt h3 n2 (by omega) S3 _ rfl
              · iterate 2 refine fst1_ok X (dk rfl) rfl ?_
                rw [show (Int8.ofInt 44).toInt32 = nI 44 by decide +kernel]
                refine appC_ok (N := 152) X E S3 (c0 := 44) (by omega) (by omega) (by omega) mlX6_338 ⟨Nat.le_of_ble_eq_true rfl, Nat.le_of_ble_eq_true rfl⟩ ⟨by show 2 + wsum i + 1 + t + 1 ≤ 156; omega, by show 20 + 304 * wsum i + 304 + 304 * t + 2 * 152 ≤ 46400; omega⟩ (Nat.le_of_ble_eq_true rfl) (dk rfl) (fun h4 S4 => ?_)
                refine fst1_ok X (dk rfl) rfl ?_
                refine WS.widen (k' := 2 + wsum i + (i + 2)) (n' := 20 + 304 * wsum i + 304 * (i + 2)) (by show 2 + wsum i + 1 + t + 1 ≤ _; omega) (by show 20 + 304 * wsum i + 304 + 304 * t + 2 * 152 ≤ _; omega) ?_
                exact nxt h4 _ (by omega) S4 _ rfl
            | succ d ih2 =>
              intro t n2 h3 hd2 ht hn2 S3 l hl
              rcases Nat.eq_or_lt_of_le ht with ht2 | ht2
              · exact ih2 t n2 h3 (by omega) ht hn2 S3 l hl
              refine WS.sel [5, 4, 2, 1, 0] hl ?_
              iterate 2 refine fst1_ok X (dk rfl) rfl ?_
              refine br_ok X (dk rfl) rfl (show ((64 : Nat) : Int) + 16 = ((80 : Nat) : Int) from rfl) (fun q => absurd q (nI_ge (by omega) (by omega))) (fun _ => ?_)
              iterate 2 refine fst1_ok X (dk rfl) rfl ?_
              rw [show (Int8.ofInt 41).toInt32 = nI 41 by decide +kernel]
              refine appC_ok (N := 152) X E S3 (c0 := 41) (by omega) (by omega) (by omega) mlX6_338 ⟨Nat.le_of_ble_eq_true rfl, Nat.le_of_ble_eq_true rfl⟩ ⟨by show 2 + wsum i + 1 + t + 1 ≤ 156; omega, by show 20 + 304 * wsum i + 304 + 304 * t + 2 * 152 ≤ 46400; omega⟩ (Nat.le_of_ble_eq_true rfl) (dk rfl) (fun h4 S4 => ?_)
              iterate 2 refine fst1_ok X (dk rfl) rfl ?_
              refine br_ok X (dk rfl) rfl (show ((77 : Nat) : Int) + (-17) = ((60 : Nat) : Int) from rfl) (fun _ => ?_) (fun q => absurd trivial q)
              have f3 : Value.int (nI t + Int32.ofInt 1) = vI (t + 1) := congrArg Value.int (by rw [nI_1', nI_add])
              refine WS.sel (l' := [(5, vI (t + 1)), (4, vI z2), (2, vI i), (1, .ref b), (0, .ref o0)]) [5, 4, 2, 1, 0] (by rw [← f3]; rfl) ?_
              refine WS.widen (k' := 2 + wsum i + 1 + (t + 1)) (n' := 20 + 304 * wsum i + 304 + 304 * (t + 1)) (by show 2 + wsum i + 1 + t + 1 ≤ _; omega) (by show 20 + 304 * wsum i + 304 + 304 * t + 2 * 152 ≤ _; omega) ?_
              exact ih2 (t + 1) (n2 + 1) h4 (by omega) (by omega) (by omega) S4 _ rfl
          refine WS.widen (k' := 2 + wsum i + 1 + 0) (n' := 20 + 304 * wsum i + 304 + 304 * 0) (by show 2 + wsum i + 1 + 0 ≤ _; omega) (by show 20 + 304 * wsum i + 304 + 0 ≤ _; omega) ?_
          exact inner (z2 - 0) 0 _ _ (Nat.le_refl _) (Nat.zero_le _) (by omega) S2 _ rfl
        · iterate 2 refine fst1_ok X (dk rfl) rfl ?_
          rw [show (Int8.ofInt 40).toInt32 = nI 40 by decide +kernel]
          refine appC_ok (N := 152) X E S2 (c0 := 40) (by omega) (by omega) (by omega) mlX6_338 ⟨Nat.le_of_ble_eq_true rfl, Nat.le_of_ble_eq_true rfl⟩ ⟨by show 2 + wsum i + 1 + 0 + 1 ≤ 156; omega, by show 20 + 304 * wsum i + 304 + 0 + 2 * 152 ≤ 46400; omega⟩ (Nat.le_of_ble_eq_true rfl) (dk rfl) (fun h4 S4 => ?_)
          refine fst1_ok X (dk rfl) rfl ?_
          refine br_ok X (dk rfl) rfl (show ((47 : Nat) : Int) + 50 = ((97 : Nat) : Int) from rfl) (fun _ => ?_) (fun q => absurd trivial q)
          refine WS.widen (k' := 2 + wsum i + (i + 2)) (n' := 20 + 304 * wsum i + 304 * (i + 2)) (by show 2 + wsum i + 1 + 0 + 1 ≤ _; omega) (by show 20 + 304 * wsum i + 304 + 0 + 2 * 152 ≤ _; omega) ?_
          exact nxt h4 _ (by omega) S4 _ rfl
  exact loop 16 0 0 h1 (by omega) (by omega) (Nat.le_refl _) S1 _ rfl
end F11
def aSize (x1 : Int32) (st : ST) : RS := if okI 6 x1 then ((0, nI (st.1.getD (xI x1) []).length), st) else ((1, 0), st)
def aTold (x1 x2 : Int32) (st : ST) : RS := if okI 3 x1 then (if okI 8 x2 then ((0, 0), st) else ((2, 0), st)) else ((1, 0), st)
def QT (B Q P : Nat → Nat) (ox : Nat) (kn : Int32) (st : ST) (h : AH) (v : Option Value) (h' : AH) : Prop := (∃ sa : Nat, v = some (.ref sa)) ∧ StC B Q P ox kn h' st ∧ FrC h h'
section S11d
variable {la : Launch} {D : va_G} {cA : Nat → ClassId} {B0 pa : Nat} {B Q P : Nat → Nat} {ox : Nat} {kn d r : Int32} {F : Nat → TC}
theorem HL_ok {h : AH} (Y : LYO B Q) (C : CLS B Q P ox kn h F d r) {i : Nat} (hi : i < 30) {ns : List Nat} (N : TN (F i) ns) : ∀ (h2 : AH), Tyg (FZt B Q P h) h2 → ∀ j : Nat, ∃ x : Int32, LR0 x ∧ CT la D cA B0 pa yX5_letterAt cX5_letterAt 2 (some .int) (rmD 0 0 0) [.ref (B i), vI j] h2 (RP (.int x) h2) := fun h2 J j => by
  obtain ⟨-, F', C', e⟩ := FZ_fin Y C J
  exact ⟨ltX (F' i).1 (nI j), by rw [e i hi, N.1]; exact ltX_LR N.2 _, s5_letterAt h2 C'.1 (by omega) (nI j)⟩
theorem CLS.knk {h : AH} (C : CLS B Q P ox kn h F d r) (kn' : Int32) : CLS B Q P ox kn' (hup h ox (OXc B P d r kn')) F d r ∧ FrC h (hup h ox (OXc B P d r kn')) := by
  obtain ⟨S, x, ⟨c1, c2, c3, c4, c5⟩, ⟨t, e, r1⟩, r2, r3, r4, r5⟩ := C
  have x' : h ox = some (8, (OXc B P d r kn).2) := x
  have kp : ∀ {b k : Nat} {vs : List Value}, h b = some (k, vs) → k ≠ 8 → hup h ox (OXc B P d r kn') b = some (k, vs) := fun {b k vs} eb hk => by rw [hup_ne _ _ (k_ne eb x' hk)]; exact eb
  refine ⟨⟨S.out x' (by decide) (by decide) _, hup_self _ _ _, ⟨kp c1 (by decide), kp c2 (by decide), fun k hk => (c3 k hk).out x' (by decide) (by decide) _, c4.out x' (by decide) (by decide) _, c5.out x' (by decide) (by decide) _⟩, ⟨t, e, kp r1 (by decide)⟩, kp r2 (by decide), kp r3 (by decide), fun k hk => ?_, fun j h1 h2 => ?_⟩, FrC.put x rfl _⟩
  · obtain ⟨w, w1, w2⟩ := r4 k hk
    exact ⟨w, w1, kp w2 (by decide)⟩
  · obtain ⟨xs, e1, e2⟩ := r5 j h1 h2
    exact ⟨xs, kp e1 (by decide), e2⟩
set_option maxHeartbeats 8000000 in
theorem s6_text (h : AH) (hl : la.stackTraces = false) (Y : LYO B Q) {st : ST} (C0 : StC B Q P ox kn h st) (x1 : Int32) : CTX la D cA B0 pa yX6_text cX6_text 2 (some (.object "java/lang/String")) (rmD 7 157 46406) [.ref ox, .int x1] h (QT B Q P ox kn st h) (AX (aSize x1 st) st h) := by
  refine CTX_of (by decide +kernel) (Nat.le_of_ble_eq_true rfl) ?_
  intro p e s m args below meth c X E hr hlk hnm ht
  have dk : ∀ {pc : Nat} {q : Instr × Nat}, lkd DX6_text pc = some q → decode cX6_text pc = .ok q := lkd_ok DX6_text_ok
  obtain ⟨F, C, H, O⟩ := id C0
  obtain ⟨Ig, Tb, fin⟩ := FZ_st Y C0
  iterate 2 refine fst1_ok X (dk rfl) rfl ?_
  refine callVX_ok (ci := 8) (T := TX6) (N := 14) (av := [.int x1]) (r := []) X E ht hlk (s6_termOf h hl C x1) (fun E1 h1 z => AX.one (by unfold aSize; rw [if_neg (by rw [okI_f z.2.1]; decide)]) ⟨z.1, z.2.2⟩) lkX6_termOf mlX6_69 lmX6_termOf lpX6_termOf ⟨Nat.le_of_ble_eq_true rfl, Nat.le_of_ble_eq_true rfl⟩ ⟨Nat.le_of_ble_eq_true rfl, Nat.le_of_ble_eq_true rfl⟩ rfl C.2.1 (Nat.le_of_ble_eq_true rfl) (dk rfl) ?_
  rintro _ h1 ⟨⟨j, hj, rfl, rfl⟩, eh⟩
  obtain rfl := eh.symm
  obtain ⟨nj, sj, ej, tj, wj, lj⟩ := H.slot O hj
  refine callS_ok (av := [.ref (B j)]) (r := []) X E (FZ.c6_written _ Ig (FZt_F Y C.1 C.2.2.2 (i := j) (by omega)) (HL_ok Y C (i := j) (by omega) tj)) lkX6_written mlX6_197 lsX6_written ⟨Nat.le_of_ble_eq_true rfl, Nat.le_of_ble_eq_true rfl⟩ ⟨Nat.le_of_ble_eq_true rfl, Nat.le_of_ble_eq_true rfl⟩ (Nat.le_of_ble_eq_true rfl) (dk rfl) ?_
  rintro _ h3 ⟨⟨sa, rfl⟩, J2⟩
  refine WRX.ret ?_
  exact reta_ok X hr hlk (Or.inl ⟨_, rfl⟩) (Or.inr ⟨_, rfl⟩) (dk rfl) (⟨⟨_, rfl⟩, fin J2.1⟩) (Nat.le_of_ble_eq_true rfl) (Nat.le_of_ble_eq_true rfl)
set_option maxHeartbeats 8000000 in
theorem s6_told (h : AH) (hl : la.stackTraces = false) (Y : LYO B Q) {st : ST} (C0 : StC B Q P ox kn h st) (x1 x2 : Int32) : CTX la D cA B0 pa yX6_told cX6_told 3 (some (.object "java/lang/String")) (rmD 7 158 46412) [.ref ox, .int x1, .int x2] h (QT B Q P ox kn st h) (AX (aTold x1 x2 st) st h) := by
  refine CTX_of (by decide +kernel) (Nat.le_of_ble_eq_true rfl) ?_
  intro p e s m args below meth c X E hr hlk hnm ht
  have dk : ∀ {pc : Nat} {q : Instr × Nat}, lkd DX6_told pc = some q → decode cX6_told pc = .ok q := lkd_ok DX6_told_ok
  obtain ⟨F, C, H, O⟩ := id C0
  obtain ⟨Ig, Tb, fin⟩ := FZ_st Y C0
  iterate 2 refine fst1_ok X (dk rfl) rfl ?_
  refine callVX_ok (ci := 8) (T := TX6) (N := 14) (av := [.int x1]) (r := []) X E ht hlk (s6_answerOf h hl C x1) (fun E1 h1 z => AX.one (by unfold aTold; rw [if_neg (by rw [okI_f z.2.1]; decide)]) ⟨z.1, z.2.2⟩) lkX6_answerOf mlX6_151 lmX6_answerOf lpX6_answerOf ⟨Nat.le_of_ble_eq_true rfl, Nat.le_of_ble_eq_true rfl⟩ ⟨Nat.le_of_ble_eq_true rfl, Nat.le_of_ble_eq_true rfl⟩ rfl C.2.1 (Nat.le_of_ble_eq_true rfl) (dk rfl) ?_
  rintro _ h1 ⟨⟨k, hk, rfl, rfl⟩, eh⟩
  obtain rfl := eh.symm
  obtain ⟨rows, sk, rk⟩ := H.2 k hk
  have ok := C.2.2.1.2.2.1 k hk
  refine fst1_ok X (dk rfl) rfl ?_
  refine callVX_ok (ci := 2) (T := TX0) (N := 1) (av := [.int x2]) (r := []) X E ht hlk (s0_of _ hl C.1 ok x2) (fun E1 h1 z => AX.two (by unfold aTold; rw [if_pos (okI_t hk (by decide)), if_neg (by rw [okI_f z.2.1]; decide)]) ⟨z.1, z.2.2⟩) lkX0_of mlX6_169 lmX0_of lpX0_of ⟨Nat.le_of_ble_eq_true rfl, Nat.le_of_ble_eq_true rfl⟩ ⟨Nat.le_of_ble_eq_true rfl, Nat.le_of_ble_eq_true rfl⟩ rfl ok.2.choose_spec.1 (Nat.le_of_ble_eq_true rfl) (dk rfl) ?_
  rintro _ h1 ⟨⟨n, hn, rfl, rfl⟩, eh⟩
  obtain rfl := eh.symm
  obtain ⟨zs, z1, z2, z3, z4⟩ := rk.2 n hn
  have tz : TN (F (6 + 8 * k + n)) zs := ⟨by rw [z2], z3.2⟩
  refine callS_ok (av := [.ref (B (6 + 8 * k + n))]) (r := []) X E (FZ.c6_written _ Ig (FZt_F Y C.1 C.2.2.2 (i := 6 + 8 * k + n) (by omega)) (HL_ok Y C (i := 6 + 8 * k + n) (by omega) tz)) lkX6_written mlX6_197 lsX6_written ⟨Nat.le_of_ble_eq_true rfl, Nat.le_of_ble_eq_true rfl⟩ ⟨Nat.le_of_ble_eq_true rfl, Nat.le_of_ble_eq_true rfl⟩ (Nat.le_of_ble_eq_true rfl) (dk rfl) ?_
  rintro _ h3 ⟨⟨sa, rfl⟩, J2⟩
  refine WRX.ret ?_
  exact reta_ok X hr hlk (Or.inl ⟨_, rfl⟩) (Or.inr ⟨_, rfl⟩) (dk rfl) (⟨⟨_, rfl⟩, fin J2.1⟩) (Nat.le_of_ble_eq_true rfl) (Nat.le_of_ble_eq_true rfl)
set_option maxHeartbeats 8000000 in
theorem s6_size (h : AH) (hl : la.stackTraces = false) (Y : LYO B Q) {st : ST} (C0 : StC B Q P ox kn h st) (x1 : Int32) : CTX la D cA B0 pa yX6_size cX6_size 2 (some .int) (rmD 7 1 6) [.ref ox, .int x1] h (AP B Q P ox kn (aSize x1 st) h) (AX (aSize x1 st) st h) := by
  refine CTX_of (by decide +kernel) (Nat.le_of_ble_eq_true rfl) ?_
  intro p e s m args below meth c X E hr hlk hnm ht
  have dk : ∀ {pc : Nat} {q : Instr × Nat}, lkd DX6_size pc = some q → decode cX6_size pc = .ok q := lkd_ok DX6_size_ok
  obtain ⟨F, C, H, O⟩ := id C0
  iterate 2 refine fst1_ok X (dk rfl) rfl ?_
  refine callVX_ok (ci := 8) (T := TX6) (N := 14) (av := [.int x1]) (r := []) X E ht hlk (s6_termOf h hl C x1) (fun E1 h1 z => AX.one (by unfold aSize; rw [if_neg (by rw [okI_f z.2.1]; decide)]) ⟨z.1, z.2.2⟩) lkX6_termOf mlX6_69 lmX6_termOf lpX6_termOf ⟨Nat.le_of_ble_eq_true rfl, Nat.le_of_ble_eq_true rfl⟩ ⟨Nat.le_of_ble_eq_true rfl, Nat.le_of_ble_eq_true rfl⟩ rfl C.2.1 (Nat.le_of_ble_eq_true rfl) (dk rfl) ?_
  rintro _ h1 ⟨⟨j, hj, rfl, rfl⟩, eh⟩
  obtain rfl := eh.symm
  obtain ⟨nj, sj, ej, tj, wj, lj⟩ := H.slot O hj
  refine callVR_ok (ci := 7) (T := TX5) (N := 3) (av := []) (r := []) X E (s5_length _ C.1 (i := j) (by omega)) lkX5_length mlX6_76 lmX5_length lpX5_length ⟨Nat.le_of_ble_eq_true rfl, Nat.le_of_ble_eq_true rfl⟩ ⟨Nat.le_of_ble_eq_true rfl, Nat.le_of_ble_eq_true rfl⟩ rfl ⟨_, (C.1 j (by omega)).2.1⟩ (Nat.le_of_ble_eq_true rfl) (dk rfl) ?_
  rintro _ rfl
  rw [tj.len]
  have e : aSize (nI j) st = ((0, nI nj.length), st) := by
    unfold aSize
    rw [if_pos (okI_t hj (by decide)), xI_n (by omega), getD_of sj]
  rw [e]
  refine WRX.ret ?_
  exact reti_ok X hr hlk rfl (dk rfl) (⟨rfl, rfl, ⟨F, C, H, O⟩, FrC.rf _⟩) (Nat.le_of_ble_eq_true rfl) (Nat.le_of_ble_eq_true rfl)
set_option maxHeartbeats 4000000 in
theorem s6_knock (h : AH) {st : ST} (C0 : StC B Q P ox kn h st) : CT la D cA B0 pa yX6_knock cX6_knock 1 (some .int) (rmD 0 0 0) [.ref ox] h (fun v h' => v = some (.int (kn + Int32.ofInt 1)) ∧ StC B Q P ox (kn + Int32.ofInt 1) h' st ∧ FrC h h') := by
  refine CT_of (by decide +kernel) (Nat.le_of_ble_eq_true rfl) ?_
  intro p e s m args below meth c X E hr hlk hnm
  have dk : ∀ {pc : Nat} {q : Instr × Nat}, lkd DX6_knock pc = some q → decode cX6_knock pc = .ok q := lkd_ok DX6_knock_ok
  obtain ⟨F, C, H, O⟩ := id C0
  iterate 2 refine fst1_ok X (dk rfl) rfl ?_
  refine getf_ok X flX6_248 (dk rfl) C.2.1 rfl ?_
  iterate 2 refine fst1_ok X (dk rfl) rfl ?_
  refine putf_ok X flX6_248 ftX6_4 (Or.inl rfl) rfl rfl (dk rfl) C.2.1 (Nat.le_of_ble_eq_true rfl) ?_
  have C2 := C.knk (kn + Int32.ofInt 1)
  refine fst1_ok X (dk rfl) rfl ?_
  refine getf_ok X flX6_248 (dk rfl) C2.1.2.1 rfl ?_
  exact reti_ok X hr hlk rfl (dk rfl) (⟨rfl, ⟨F, C2.1, H, O⟩, C2.2⟩) (Nat.le_of_ble_eq_true rfl) (Nat.le_of_ble_eq_true rfl)
end S11d
