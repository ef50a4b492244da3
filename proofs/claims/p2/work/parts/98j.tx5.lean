/-! texts of the class, weakly (printed by wip/p40/genV.py) -/
theorem lrc {x : Int32} (hx : LR x) : ∃ c0 : Nat, c0 < 256 ∧ (((Int8.ofInt 97).toInt32 + x).toUInt32 % 65536).toInt32 = nI c0 := by
  obtain ⟨h1, h2⟩ := hx
  refine ⟨(97 + x.toInt).toNat, by omega, ?_⟩
  have e : (Int8.ofInt 97).toInt32 + x = nI (97 + x.toInt).toNat := by
    apply Int32.toInt.inj
    rw [Int32.toInt_add, show ((Int8.ofInt 97).toInt32).toInt = 97 by decide +kernel]
    have e2 : (nI (97 + x.toInt).toNat).toInt = ((97 + x.toInt).toNat : Int) := Int32.toInt_ofNat_of_lt (by omega)
    rw [e2, show ((97 + x.toInt).toNat : Int) = 97 + x.toInt by omega]
    exact Int.bmod_eq_of_le (by omega) (by omega)
  rw [e]
  exact i2cN (by omega)
/-- how many letters i letters of a term can come to -/
def wsum : Nat → Nat
  | 0 => 0
  | i + 1 => wsum i + (i + 2)
theorem wsum_le : ∀ i, i ≤ 16 → wsum i ≤ 152 := by decide
section M98k
variable {la : Launch} {D : va_G} {cA : Nat → ClassId} {B0 pa : Nat} {Γ : TY}
theorem bmT_cell {h : AH} (I : Tyg Γ h) {o0 : Nat} {kn : Int32} (T0 : BmT Γ o0 kn) : ∃ fs, h o0 = some (8, fs) := by
  obtain ⟨S1, A2, sp3, os4, wd5, ow6, sa7, oa8, bs9, bc10, sh11, ss12, as13, gb14, -⟩ := id T0
  obtain ⟨dn35, rf36, hx34⟩ := bm_open I gb14
  exact ⟨_, hx34⟩
theorem ansT_cell {h : AH} (I : Tyg Γ h) {b : Nat} (T0 : AnsT Γ b) : ∃ fs, h b = some (2, fs) := by
  obtain ⟨arr, ts, gb, -⟩ := id T0
  exact ⟨_, is_open I gb⟩
set_option maxHeartbeats 4000000 in
theorem c6_signOf (h : AH) (x : Int32) (hx : LR x) : CT la D cA B0 pa yX6_signOf cX6_signOf 2 (some .char) (rmD 4 0 0) [.int x] h (fun v h' => (∃ c0 : Nat, c0 < 256 ∧ v = some (vI c0)) ∧ h' = h) := by
  refine CT_of (by decide +kernel) (Nat.le_of_ble_eq_true rfl) ?_
  intro p e s m args below meth c X E hr hlk hnm
  have dk : ∀ {pc : Nat} {q : Instr × Nat}, lkd DX6_signOf pc = some q → decode cX6_signOf pc = .ok q := lkd_ok DX6_signOf_ok
  have low : ∀ l : List (Nat × Value), lsel l [0] = [(0, .int x)] → WR p la e (rmD 4 0 0) s m args below meth c D cA B0 2 (fun v h' => (∃ c0 : Nat, c0 < 256 ∧ v = some (vI c0)) ∧ h' = h) 42 l [] h 0 0 := by
    intro l hl
    refine WS.sel [0] hl ?_
    iterate 4 refine fst1_ok X (dk rfl) rfl ?_
    obtain ⟨c0, hc0, e0⟩ := lrc hx
    rw [e0]
    exact reti_ok X hr hlk (nchar hc0) (dk rfl) ⟨⟨c0, hc0, rfl⟩, rfl⟩ (Nat.le_of_ble_eq_true rfl) (Nat.le_of_ble_eq_true rfl)
  have zero : ∀ l : List (Nat × Value), lsel l [0] = [(0, .int x)] → WR p la e (rmD 4 0 0) s m args below meth c D cA B0 2 (fun v h' => (∃ c0 : Nat, c0 < 256 ∧ v = some (vI c0)) ∧ h' = h) 23 l [] h 0 0 := by
    intro l hl
    refine WS.sel [0] hl ?_
    iterate 3 refine fst1_ok X (dk rfl) rfl ?_
    refine br_ok X (dk rfl) rfl (show ((26 : Nat) : Int) + 16 = ((42 : Nat) : Int) from rfl) (fun _ => ?_) (fun q => absurd rfl q)
    exact low _ rfl
  have hs : StrC D (D.2 50 4) (D.2 51 4) 8 ∨ StrH h (D.2 50 4) (D.2 51 4) 8 := Or.inl ⟨4, by decide, rfl, rfl, rfl⟩
  have S : StrA D h (D.2 50 4) 8 := ⟨_, hs⟩
  iterate 2 refine fst1_ok X (dk rfl) rfl ?_
  refine br_ok X (dk rfl) rfl (show ((3 : Nat) : Int) + 20 = ((23 : Nat) : Int) from rfl) (fun c1 => ?_) (fun c1 => ?_)
  · exact zero _ rfl
  · rw [nI_10] at c1
    iterate 2 refine fst1_ok X (dk rfl) rfl ?_
    refine ldcwT_ok X E 4 (by decide) rfl rfl (dk rfl) ?_
    refine callT_ok (av := []) (r := [.int (Int8.ofInt 10).toInt32, .int x]) X E hs (t_slen h S) lkJ0_length_8abf5 mlX6_325 lmJ0_length_8abf5 lvJ0_length_8abf5 ⟨Nat.le_of_ble_eq_true rfl, Nat.le_of_ble_eq_true rfl⟩ ⟨Nat.le_of_ble_eq_true rfl, Nat.le_of_ble_eq_true rfl⟩ (Nat.le_of_ble_eq_true rfl) (dk rfl) ?_
    rintro _ _ ⟨rfl, rfl⟩
    refine fst1_ok X (dk rfl) rfl ?_
    refine br_ok X (dk rfl) rfl (show ((16 : Nat) : Int) + 7 = ((23 : Nat) : Int) from rfl) (fun c2 => ?_) (fun c2 => ?_)
    · exact zero _ rfl
    · rw [nI_10, nI_add] at c2
      have c3 : ¬ x < 0 := fun z => c1 (Int32.lt_trans z (by decide))
      obtain ⟨t, ht, rfl⟩ := nI_of c3
      have t1 : 10 ≤ t := by
        rcases Nat.lt_or_ge t 10 with q | q
        · exact absurd ((nI_ltI ht (by omega)).mpr q) c1
        · exact q
      have t2 : t < 18 := by
        rcases Nat.lt_or_ge t 18 with q | q
        · exact q
        · exact absurd ((nI_leI (a := 18) (by omega) ht).mpr q) c2
      refine fst1_ok X (dk rfl) rfl ?_
      refine br_ok X (dk rfl) rfl (show ((20 : Nat) : Int) + 4 = ((24 : Nat) : Int) from rfl) (fun _ => ?_) (fun q => absurd trivial q)
      iterate 2 refine fst1_ok X (dk rfl) rfl ?_
      refine br_ok X (dk rfl) rfl (show ((26 : Nat) : Int) + 16 = ((42 : Nat) : Int) from rfl) (fun q => absurd q (by decide)) (fun _ => ?_)
      refine ldcwT_ok X E 4 (by decide) rfl rfl (dk rfl) ?_
      iterate 3 refine fst1_ok X (dk rfl) rfl ?_
      rw [nI_10, nI_sub t1]
      refine callT_ok (av := [vI (t - 10)]) (r := []) X E hs (t_char _ (i := 4) (by decide) (show t - 10 < 8 by omega)) lkJ0_charAt_5068e mlX6_328 lmJ0_charAt_5068e lvJ0_charAt_5068e ⟨Nat.le_of_ble_eq_true rfl, Nat.le_of_ble_eq_true rfl⟩ ⟨Nat.le_of_ble_eq_true rfl, Nat.le_of_ble_eq_true rfl⟩ (Nat.le_of_ble_eq_true rfl) (dk rfl) ?_
      rintro _ _ ⟨⟨c0, hc0, rfl⟩, rfl⟩
      refine br_ok X (dk rfl) rfl (show ((39 : Nat) : Int) + 8 = ((47 : Nat) : Int) from rfl) (fun _ => ?_) (fun q => absurd trivial q)
      exact reti_ok X hr hlk (nchar hc0) (dk rfl) ⟨⟨c0, hc0, rfl⟩, rfl⟩ (Nat.le_of_ble_eq_true rfl) (Nat.le_of_ble_eq_true rfl)
set_option maxHeartbeats 8000000 in
theorem c6_written (h : AH) (I : Tyg Γ h) {o0 : Nat} (T0 : TermT Γ o0 16) : CT la D cA B0 pa yX6_written cX6_written 6 (some (.object "java/lang/String")) (rmD 6 156 46400) [.ref o0] h (WrO Γ (fun v => ∃ sa : Nat, v = some (.ref sa)) h) := by
  refine CT_of (by decide +kernel) (Nat.le_of_ble_eq_true rfl) ?_
  intro p e s m args below meth c X E hr hlk hnm
  have dk : ∀ {pc : Nat} {q : Instr × Nat}, lkd DX6_written pc = some q → decode cX6_written pc = .ok q := lkd_ok DX6_written_ok
  obtain ⟨hL, q, gb, gl⟩ := id T0
  refine newSB_ok X E ncX6_332 mlX6_334 (dk rfl) (dk rfl) (dk rfl) ⟨Nat.le_of_ble_eq_true rfl, Nat.le_of_ble_eq_true rfl⟩ ⟨Nat.le_of_ble_eq_true rfl, Nat.le_of_ble_eq_true rfl⟩ (Nat.le_of_ble_eq_true rfl) (fun b h1 S1 => ?_)
  iterate 3 refine fst1_ok X (dk rfl) rfl ?_
  have loop : ∀ (d i nn : Nat) (hc : AH), 16 - i ≤ d → i ≤ 16 → nn ≤ wsum i → SBst h hc b nn → ∀ (l : List (Nat × Value)), lsel l [2, 1, 0] = [(2, vI i), (1, .ref b), (0, .ref o0)] → WR p la e (rmD 6 156 46400) s m args below meth c D cA B0 6 (WrO Γ (fun v => ∃ sa : Nat, v = some (.ref sa)) h) 10 l [] hc (2 + wsum i) (20 + 304 * wsum i) := by
    intro d
    induction d with
    | zero =>
      intro i nn hc hd hi hnn S l hl
      have hi2 : i = 16 := by omega
      have hw := wsum_le i hi
      have Ic := S.base.tyg I
      refine WS.sel [2, 1, 0] hl ?_
      iterate 2 refine fst1_ok X (dk rfl) rfl ?_
      refine callVR_ok (ci := 7) (T := TX5) (N := 3) (av := []) (r := [vI i]) X E (c5_length hc Ic T0) lkX5_length mlX6_76 lmX5_length lpX5_length ⟨Nat.le_of_ble_eq_true rfl, Nat.le_of_ble_eq_true rfl⟩ ⟨by show _ ≤ 156; omega, by show _ ≤ 46400; omega⟩ rfl (tm_cell Ic gb) (Nat.le_of_ble_eq_true rfl) (dk rfl) ?_
      rintro _ ⟨z, hz, rfl⟩
      refine br_ok X (dk rfl) rfl (show ((15 : Nat) : Int) + 88 = ((103 : Nat) : Int) from rfl) (fun _ => ?_) (fun q => absurd ((nI_leI (by omega) (by omega)).mpr (by omega)) q)
      refine fst1_ok X (dk rfl) rfl ?_
      refine toS_ok X E S mlX6_345 ⟨Nat.le_of_ble_eq_true rfl, Nat.le_of_ble_eq_true rfl⟩ ⟨by show 2 + wsum i + 2 ≤ 156; omega, by show 20 + 304 * wsum i + (4 + nn) ≤ 46400; omega⟩ (Nat.le_of_ble_eq_true rfl) (dk rfl) (fun sa h4 S4 => ?_)
      obtain ⟨sa2, va2, -, -, -, -, XQ⟩ := id S4
      exact reta_ok X hr hlk (Or.inl ⟨_, rfl⟩) (Or.inr ⟨_, rfl⟩) (dk rfl) ⟨⟨_, rfl⟩, Ext.ti XQ I⟩ (by show 2 + wsum i + 2 ≤ 156; omega) (by show 20 + 304 * wsum i + (4 + nn) ≤ 46400; omega)
    | succ d ih =>
      intro i nn hc hd hi hnn S l hl
      have hw := wsum_le i hi
      have Ic := S.base.tyg I
      refine WS.sel [2, 1, 0] hl ?_
      iterate 2 refine fst1_ok X (dk rfl) rfl ?_
      refine callVR_ok (ci := 7) (T := TX5) (N := 3) (av := []) (r := [vI i]) X E (c5_length hc Ic T0) lkX5_length mlX6_76 lmX5_length lpX5_length ⟨Nat.le_of_ble_eq_true rfl, Nat.le_of_ble_eq_true rfl⟩ ⟨by show _ ≤ 156; omega, by show _ ≤ 46400; omega⟩ rfl (tm_cell Ic gb) (Nat.le_of_ble_eq_true rfl) (dk rfl) ?_
      rintro _ ⟨z, hz, rfl⟩
      refine br_ok X (dk rfl) rfl (show ((15 : Nat) : Int) + 88 = ((103 : Nat) : Int) from rfl) (fun c1 => ?_) (fun c1 => ?_)
      · refine fst1_ok X (dk rfl) rfl ?_
        refine toS_ok X E S mlX6_345 ⟨Nat.le_of_ble_eq_true rfl, Nat.le_of_ble_eq_true rfl⟩ ⟨by show 2 + wsum i + 2 ≤ 156; omega, by show 20 + 304 * wsum i + (4 + nn) ≤ 46400; omega⟩ (Nat.le_of_ble_eq_true rfl) (dk rfl) (fun sa h4 S4 => ?_)
        obtain ⟨sa2, va2, -, -, -, -, XQ⟩ := id S4
        exact reta_ok X hr hlk (Or.inl ⟨_, rfl⟩) (Or.inr ⟨_, rfl⟩) (dk rfl) ⟨⟨_, rfl⟩, Ext.ti XQ I⟩ (by show 2 + wsum i + 2 ≤ 156; omega) (by show 20 + 304 * wsum i + (4 + nn) ≤ 46400; omega)
      · have hi16 : i < 16 := by
          rcases Nat.lt_or_ge i z with q | q
          · omega
          · exact absurd ((nI_leI (by omega) (by omega)).mpr q) c1
        have hw1 : wsum i + (i + 2) ≤ 152 := wsum_le (i + 1) (by omega)
        iterate 2 refine fst1_ok X (dk rfl) rfl ?_
        refine callVR_ok (ci := 7) (T := TX5) (N := 3) (av := [vI i]) (r := []) X E (c5_letterAt _ Ic T0 (nI i)) lkX5_letterAt mlX6_132 lmX5_letterAt lpX5_letterAt ⟨Nat.le_of_ble_eq_true rfl, Nat.le_of_ble_eq_true rfl⟩ ⟨by show 2 + wsum i ≤ 156; omega, by show 20 + 304 * wsum i ≤ 46400; omega⟩ rfl (tm_cell Ic gb) (Nat.le_of_ble_eq_true rfl) (dk rfl) ?_
        rintro _ ⟨x, hx, rfl⟩
        iterate 3 refine fst1_ok X (dk rfl) rfl ?_
        refine callS_ok (av := [.int x]) (r := [.ref b]) X E (c6_signOf _ x hx) lkX6_signOf mlX6_335 lsX6_signOf ⟨Nat.le_of_ble_eq_true rfl, Nat.le_of_ble_eq_true rfl⟩ ⟨by show 2 + wsum i + 0 ≤ 156; omega, by show 20 + 304 * wsum i + 0 ≤ 46400; omega⟩ (Nat.le_of_ble_eq_true rfl) (dk rfl) ?_
        rintro _ _ ⟨⟨c0, hc0, rfl⟩, rfl⟩
        refine appC_ok (N := 152) X E S hc0 (by omega) (by omega) mlX6_338 ⟨Nat.le_of_ble_eq_true rfl, Nat.le_of_ble_eq_true rfl⟩ ⟨by show 2 + wsum i + 0 + 1 ≤ 156; omega, by show 20 + 304 * wsum i + 0 + 2 * 152 ≤ 46400; omega⟩ (Nat.le_of_ble_eq_true rfl) (dk rfl) (fun h2 S2 => ?_)
        refine WS.widen (k' := 2 + wsum i + 1) (n' := 20 + 304 * wsum i + 304) (by show 2 + wsum i + 0 + 1 ≤ _; omega) (by show 20 + 304 * wsum i + 0 + 2 * 152 ≤ _; omega) ?_
        have I2 := S2.base.tyg I
        iterate 2 refine fst1_ok X (dk rfl) rfl ?_
        refine callS_ok (av := [.int x]) (r := []) X E (c6_partsOf _ I2 x) lkX6_partsOf mlX6_91 lsX6_partsOf ⟨Nat.le_of_ble_eq_true rfl, Nat.le_of_ble_eq_true rfl⟩ ⟨by show 2 + wsum i + 1 + 0 ≤ 156; omega, by show 20 + 304 * wsum i + 304 + 0 ≤ 46400; omega⟩ (Nat.le_of_ble_eq_true rfl) (dk rfl) ?_
        rintro _ _ ⟨⟨pz, hpz, rfl⟩, rfl⟩
        have f2 : Value.int (nI i + Int32.ofInt 1) = vI (i + 1) := congrArg Value.int (by rw [nI_1', nI_add])
        have nxt : ∀ (h3 : AH) (n3 : Nat), n3 ≤ wsum i + (i + 2) → SBst h h3 b n3 → ∀ (l : List (Nat × Value)), lsel l [2, 1, 0] = [(2, vI i), (1, .ref b), (0, .ref o0)] → WR p la e (rmD 6 156 46400) s m args below meth c D cA B0 6 (WrO Γ (fun v => ∃ sa : Nat, v = some (.ref sa)) h) 97 l [] h3 (2 + wsum i + (i + 2)) (20 + 304 * wsum i + 304 * (i + 2)) := by
          intro h3 n3 hn3 S3 l hl
          refine WS.sel [2, 1, 0] hl ?_
          refine fst1_ok X (dk rfl) rfl ?_
          refine br_ok X (dk rfl) rfl (show ((100 : Nat) : Int) + (-90) = ((10 : Nat) : Int) from rfl) (fun _ => ?_) (fun q => absurd trivial q)
          refine WS.sel (l' := [(2, vI (i + 1)), (1, .ref b), (0, .ref o0)]) [2, 1, 0] (by rw [← f2]; rfl) ?_
          refine WS.widen (k' := 2 + wsum (i + 1)) (n' := 20 + 304 * wsum (i + 1)) (by show _ ≤ 2 + (wsum i + (i + 2)); omega) (by show _ ≤ 20 + 304 * (wsum i + (i + 2)); omega) ?_
          exact ih (i + 1) n3 h3 (by omega) (by omega) (by show n3 ≤ wsum i + (i + 2); omega) S3 _ rfl
        refine br_ok X (dk rfl) rfl (show ((37 : Nat) : Int) + 13 = ((50 : Nat) : Int) from rfl) (fun c2 => ?_) (fun c2 => ?_)
        · iterate 2 refine fst1_ok X (dk rfl) rfl ?_
          refine callVR_ok (ci := 7) (T := TX5) (N := 3) (av := [vI i]) (r := []) X E (c5_closedBehind _ I2 T0 (nI i)) lkX5_closedBehind mlX6_342 lmX5_closedBehind lpX5_closedBehind ⟨Nat.le_of_ble_eq_true rfl, Nat.le_of_ble_eq_true rfl⟩ ⟨by show 2 + wsum i + 1 + 0 ≤ 156; omega, by show 20 + 304 * wsum i + 304 + 0 ≤ 46400; omega⟩ rfl (tm_cell I2 gb) (Nat.le_of_ble_eq_true rfl) (dk rfl) ?_
          rintro _ ⟨z2, hz2, rfl⟩
          have hz3 : z2 ≤ i := by
            have e : (nI i).toInt = (i : Int) := Int32.toInt_ofNat_of_lt (by omega)
            rw [e] at hz2
            omega
          iterate 3 refine fst1_ok X (dk rfl) rfl ?_
          have inner : ∀ (d t n2 : Nat) (h3 : AH), z2 - t ≤ d → t ≤ z2 → n2 ≤ wsum i + 1 + t → SBst h h3 b n2 → ∀ (l : List (Nat × Value)), lsel l [5, 4, 2, 1, 0] = [(5, vI t), (4, vI z2), (2, vI i), (1, .ref b), (0, .ref o0)] → WR p la e (rmD 6 156 46400) s m args below meth c D cA B0 6 (WrO Γ (fun v => ∃ sa : Nat, v = some (.ref sa)) h) 60 l [] h3 (2 + wsum i + 1 + t) (20 + 304 * wsum i + 304 + 304 * t) := by
            intro d
            induction d with
            | zero =>
              intro t n2 h3 hd2 ht hn2 S3 l hl
              have ht2 : t = z2 := by omega
              subst ht2
              have I3 := S3.base.tyg I
              refine WS.sel [5, 4, 2, 1, 0] hl ?_
              iterate 2 refine fst1_ok X (dk rfl) rfl ?_
              refine br_ok X (dk rfl) rfl (show ((64 : Nat) : Int) + 16 = ((80 : Nat) : Int) from rfl) (fun _ => ?_) (fun q => absurd (Int32.le_refl _) q)
              iterate 4 refine fst1_ok X (dk rfl) rfl ?_
              refine callVR_ok (ci := 7) (T := TX5) (N := 3) (av := []) (r := [.int (nI i + Int32.ofInt 1)]) X E (c5_length h3 I3 T0) lkX5_length mlX6_76 lmX5_length lpX5_length ⟨Nat.le_of_ble_eq_true rfl, Nat.le_of_ble_eq_true rfl⟩ ⟨by show _ ≤ 156; omega, by show _ ≤ 46400; omega⟩ rfl (tm_cell I3 gb) (Nat.le_of_ble_eq_true rfl) (dk rfl) ?_
              rintro _ ⟨z4, hz4, rfl⟩
              refine br_ok X (dk rfl) rfl (show ((87 : Nat) : Int) + 10 = ((97 : Nat) : Int) from rfl) (fun c4 => ?_) (fun c4 => ?_)
              · refine WS.widen (k' := 2 + wsum i + (i + 2)) (n' := 20 + 304 * wsum i + 304 * (i + 2)) (by show 2 + wsum i + 1 + t ≤ _; omega) (by show 20 + 304 * wsum i + 304 + 304 * t ≤ _; omega) ?_
                exact nxt h3 n2 (by omega) S3 _ rfl
              · iterate 2 refine fst1_ok X (dk rfl) rfl ?_
                rw [show (Int8.ofInt 44).toInt32 = nI 44 by decide +kernel]
                refine appC_ok (N := 152) X E S3 (c0 := 44) (by omega) (by omega) (by omega) mlX6_338 ⟨Nat.le_of_ble_eq_true rfl, Nat.le_of_ble_eq_true rfl⟩ ⟨by show 2 + wsum i + 1 + t + 1 ≤ 156; omega, by show 20 + 304 * wsum i + 304 + 304 * t + 2 * 152 ≤ 46400; omega⟩ (Nat.le_of_ble_eq_true rfl) (dk rfl) (fun h4 S4 => ?_)
                refine fst1_ok X (dk rfl) rfl ?_
                refine WS.widen (k' := 2 + wsum i + (i + 2)) (n' := 20 + 304 * wsum i + 304 * (i + 2)) (by show 2 + wsum i + 1 + t + 1 ≤ _; omega) (by show 20 + 304 * wsum i + 304 + 304 * t + 2 * 152 ≤ _; omega) ?_
                exact nxt h4 _ (by omega) S4 _ rfl
            | succ d ih2 =>
              intro t n2 h3 hd2 ht hn2 S3 l hl
              rcases Nat.eq_or_lt_of_le ht with ht2 | ht2
              · exact ih2 t n2 h3 (by omega) ht hn2 S3 l hl
              refine WS.sel [5, 4, 2, 1, 0] hl ?_
              iterate 2 refine fst1_ok X (dk rfl) rfl ?_
              refine br_ok X (dk rfl) rfl (show ((64 : Nat) : Int) + 16 = ((80 : Nat) : Int) from rfl) (fun q => absurd q (nI_ge (by omega) (by omega))) (fun _ => ?_)
              iterate 2 refine fst1_ok X (dk rfl) rfl ?_
              rw [show (Int8.ofInt 41).toInt32 = nI 41 by decide +kernel]
              refine appC_ok (N := 152) X E S3 (c0 := 41) (by omega) (by omega) (by omega) mlX6_338 ⟨Nat.le_of_ble_eq_true rfl, Nat.le_of_ble_eq_true rfl⟩ ⟨by show 2 + wsum i + 1 + t + 1 ≤ 156; omega, by show 20 + 304 * wsum i + 304 + 304 * t + 2 * 152 ≤ 46400; omega⟩ (Nat.le_of_ble_eq_true rfl) (dk rfl) (fun h4 S4 => ?_)
              iterate 2 refine fst1_ok X (dk rfl) rfl ?_
              refine br_ok X (dk rfl) rfl (show ((77 : Nat) : Int) + (-17) = ((60 : Nat) : Int) from rfl) (fun _ => ?_) (fun q => absurd trivial q)
              have f3 : Value.int (nI t + Int32.ofInt 1) = vI (t + 1) := congrArg Value.int (by rw [nI_1', nI_add])
              refine WS.sel (l' := [(5, vI (t + 1)), (4, vI z2), (2, vI i), (1, .ref b), (0, .ref o0)]) [5, 4, 2, 1, 0] (by rw [← f3]; rfl) ?_
              refine WS.widen (k' := 2 + wsum i + 1 + (t + 1)) (n' := 20 + 304 * wsum i + 304 + 304 * (t + 1)) (by show 2 + wsum i + 1 + t + 1 ≤ _; omega) (by show 20 + 304 * wsum i + 304 + 304 * t + 2 * 152 ≤ _; omega) ?_
              exact ih2 (t + 1) (n2 + 1) h4 (by omega) (by omega) (by omega) S4 _ rfl
          refine WS.widen (k' := 2 + wsum i + 1 + 0) (n' := 20 + 304 * wsum i + 304 + 304 * 0) (by show 2 + wsum i + 1 + 0 ≤ _; omega) (by show 20 + 304 * wsum i + 304 + 0 ≤ _; omega) ?_
          exact inner (z2 - 0) 0 _ _ (Nat.le_refl _) (Nat.zero_le _) (by omega) S2 _ rfl
        · iterate 2 refine fst1_ok X (dk rfl) rfl ?_
          rw [show (Int8.ofInt 40).toInt32 = nI 40 by decide +kernel]
          refine appC_ok (N := 152) X E S2 (c0 := 40) (by omega) (by omega) (by omega) mlX6_338 ⟨Nat.le_of_ble_eq_true rfl, Nat.le_of_ble_eq_true rfl⟩ ⟨by show 2 + wsum i + 1 + 0 + 1 ≤ 156; omega, by show 20 + 304 * wsum i + 304 + 0 + 2 * 152 ≤ 46400; omega⟩ (Nat.le_of_ble_eq_true rfl) (dk rfl) (fun h4 S4 => ?_)
          refine fst1_ok X (dk rfl) rfl ?_
          refine br_ok X (dk rfl) rfl (show ((47 : Nat) : Int) + 50 = ((97 : Nat) : Int) from rfl) (fun _ => ?_) (fun q => absurd trivial q)
          refine WS.widen (k' := 2 + wsum i + (i + 2)) (n' := 20 + 304 * wsum i + 304 * (i + 2)) (by show 2 + wsum i + 1 + 0 + 1 ≤ _; omega) (by show 20 + 304 * wsum i + 304 + 0 + 2 * 152 ≤ _; omega) ?_
          exact nxt h4 _ (by omega) S4 _ rfl
  exact loop 16 0 0 h1 (by omega) (by omega) (Nat.le_refl _) S1 _ rfl
set_option maxHeartbeats 4000000 in
theorem c6_text (h : AH) (hl : la.stackTraces = false) (I : Tyg Γ h) {o0 : Nat} {kn : Int32} (T0 : BmT Γ o0 kn) (x1 : Int32) : CTX la D cA B0 pa yX6_text cX6_text 2 (some (.object "java/lang/String")) (rmD 7 157 46406) [.ref o0, .int x1] h (WrO Γ (fun v => ∃ sa : Nat, v = some (.ref sa)) h) (pxW [ioobe] Γ h) := by
  refine CTX_of (by decide +kernel) (Nat.le_of_ble_eq_true rfl) ?_
  intro p e s m args below meth c X E hr hlk hnm ht
  have dk : ∀ {pc : Nat} {q : Instr × Nat}, lkd DX6_text pc = some q → decode cX6_text pc = .ok q := lkd_ok DX6_text_ok
  obtain ⟨fs, hb⟩ := bmT_cell I T0
  iterate 2 refine fst1_ok X (dk rfl) rfl ?_
  refine callVX_ok (ci := 8) (T := TX6) (N := 14) (av := [.int x1]) (r := []) X E ht hlk (c6_termOf h hl I T0 x1) (fun _ _ z => z) lkX6_termOf mlX6_69 lmX6_termOf lpX6_termOf ⟨Nat.le_of_ble_eq_true rfl, Nat.le_of_ble_eq_true rfl⟩ ⟨Nat.le_of_ble_eq_true rfl, Nat.le_of_ble_eq_true rfl⟩ rfl hb (Nat.le_of_ble_eq_true rfl) (dk rfl) ?_
  rintro _ h2 ⟨⟨b, rfl, tb⟩, J⟩
  refine callS_ok (av := [.ref b]) (r := []) X E (c6_written h2 J.1 tb) lkX6_written mlX6_197 lsX6_written ⟨Nat.le_of_ble_eq_true rfl, Nat.le_of_ble_eq_true rfl⟩ ⟨Nat.le_of_ble_eq_true rfl, Nat.le_of_ble_eq_true rfl⟩ (Nat.le_of_ble_eq_true rfl) (dk rfl) ?_
  rintro _ h3 ⟨⟨sa, rfl⟩, J2⟩
  refine WRX.ret ?_
  exact reta_ok X hr hlk (Or.inl ⟨_, rfl⟩) (Or.inr ⟨_, rfl⟩) (dk rfl) ⟨⟨_, rfl⟩, J.trans J2⟩ (Nat.le_of_ble_eq_true rfl) (Nat.le_of_ble_eq_true rfl)
set_option maxHeartbeats 4000000 in
theorem c6_told (h : AH) (hl : la.stackTraces = false) (I : Tyg Γ h) {o0 : Nat} {kn : Int32} (T0 : BmT Γ o0 kn) (x1 x2 : Int32) : CTX la D cA B0 pa yX6_told cX6_told 3 (some (.object "java/lang/String")) (rmD 7 158 46412) [.ref o0, .int x1, .int x2] h (WrO Γ (fun v => ∃ sa : Nat, v = some (.ref sa)) h) (pxW [ioobe, iae] Γ h) := by
  refine CTX_of (by decide +kernel) (Nat.le_of_ble_eq_true rfl) ?_
  intro p e s m args below meth c X E hr hlk hnm ht
  have dk : ∀ {pc : Nat} {q : Instr × Nat}, lkd DX6_told pc = some q → decode cX6_told pc = .ok q := lkd_ok DX6_told_ok
  obtain ⟨fs, hb⟩ := bmT_cell I T0
  iterate 2 refine fst1_ok X (dk rfl) rfl ?_
  refine callVX_ok (ci := 8) (T := TX6) (N := 14) (av := [.int x1]) (r := []) X E ht hlk (c6_answerOf h hl I T0 x1) (fun E h' z => ⟨by have := z.1; simp at this ⊢; exact Or.inl this, z.2⟩) lkX6_answerOf mlX6_151 lmX6_answerOf lpX6_answerOf ⟨Nat.le_of_ble_eq_true rfl, Nat.le_of_ble_eq_true rfl⟩ ⟨Nat.le_of_ble_eq_true rfl, Nat.le_of_ble_eq_true rfl⟩ rfl hb (Nat.le_of_ble_eq_true rfl) (dk rfl) ?_
  rintro _ h2 ⟨⟨b, rfl, tb⟩, J⟩
  obtain ⟨fs2, hb2⟩ := ansT_cell J.1 tb
  refine fst1_ok X (dk rfl) rfl ?_
  refine callVX_ok (ci := 2) (T := TX0) (N := 1) (av := [.int x2]) (r := []) X E ht hlk (c0_of h2 hl J.1 tb x2) (fun E h' z => ⟨by have := z.1; simp at this ⊢; exact Or.inr this, J.trans z.2⟩) lkX0_of mlX6_169 lmX0_of lpX0_of ⟨Nat.le_of_ble_eq_true rfl, Nat.le_of_ble_eq_true rfl⟩ ⟨Nat.le_of_ble_eq_true rfl, Nat.le_of_ble_eq_true rfl⟩ rfl hb2 (Nat.le_of_ble_eq_true rfl) (dk rfl) ?_
  rintro _ h3 ⟨⟨b3, rfl, tb3⟩, J3⟩
  refine callS_ok (av := [.ref b3]) (r := []) X E (c6_written h3 J3.1 tb3) lkX6_written mlX6_197 lsX6_written ⟨Nat.le_of_ble_eq_true rfl, Nat.le_of_ble_eq_true rfl⟩ ⟨Nat.le_of_ble_eq_true rfl, Nat.le_of_ble_eq_true rfl⟩ (Nat.le_of_ble_eq_true rfl) (dk rfl) ?_
  rintro _ h4 ⟨⟨sa, rfl⟩, J4⟩
  refine WRX.ret ?_
  exact reta_ok X hr hlk (Or.inl ⟨_, rfl⟩) (Or.inr ⟨_, rfl⟩) (dk rfl) ⟨⟨_, rfl⟩, J.trans (J3.trans J4)⟩ (Nat.le_of_ble_eq_true rfl) (Nat.le_of_ble_eq_true rfl)
end M98k
