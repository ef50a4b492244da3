/-! texts of the class, weakly (printed by wip/p40/genV.py) -/
theorem lrc {x : Int32} (hx : LR x) : ∃ c0 : Nat, c0 < 256 ∧ (((Int8.ofInt 97).toInt32 + x).toUInt32 % 65536).toInt32 = nI c0 := by
  obtain ⟨h1, h2⟩ := hx
  refine ⟨(97 + x.toInt).toNat, by omega, ?_⟩
  have e : (Int8.ofInt 97).toInt32 + x = nI (97 + x.toInt).toNat := by
    apply Int32.toInt.inj
    rw [Int32.toInt_add, show ((Int8.ofInt 97).toInt32).toInt = 97 by decide +kernel]
    have e2 : (nI (97 + x.toInt).toNat).toInt = ((97 + x.toInt).toNat : Int) := Int32.toInt_ofNat_of_lt (by omega)
    rw [e2, show ((97 + x.toInt).toNat : Int) = 97 + x.toInt by omega]
    exact Int.bmod_eq_of_le (by omega) (by omega)
  rw [e]
  exact i2cN (by omega)
/-- how many letters i letters of a term can come to -/
def wsum : Nat → Nat
  | 0 => 0
  | i + 1 => wsum i + (i + 2)
theorem wsum_le : ∀ i, i ≤ 16 → wsum i ≤ 152 := by decide
section M98k
variable {la : Launch} {D : va_G} {cA : Nat → ClassId} {B0 pa : Nat} {Γ : TY}
set_option maxHeartbeats 4000000 in
theorem c6_signOf (h : AH) (x : Int32) (hx : LR x) : CT la D cA B0 pa yX6_signOf cX6_signOf 2 (some .char) (rmD 4 0 0) [.int x] h (fun v h' => (∃ c0 : Nat, c0 < 256 ∧ v = some (vI c0)) ∧ h' = h) := by
  refine CT_of (by decide +kernel) (Nat.le_of_ble_eq_true rfl) ?_
  intro p e s m args below meth c X E hr hlk hnm
  have dk : ∀ {pc : Nat} {q : Instr × Nat}, lkd DX6_signOf pc = some q → decode cX6_signOf pc = .ok q := lkd_ok DX6_signOf_ok
  have low : ∀ l : List (Nat × Value), lsel l [0] = [(0, .int x)] → WR p la e (rmD 4 0 0) s m args below meth c D cA B0 2 (fun v h' => (∃ c0 : Nat, c0 < 256 ∧ v = some (vI c0)) ∧ h' = h) 42 l [] h 0 0 := by
    intro l hl
    refine WS.sel [0] hl ?_
    iterate 4 refine fst1_ok X (dk rfl) rfl ?_
    obtain ⟨c0, hc0, e0⟩ := lrc hx
    rw [e0]
    exact reti_ok X hr hlk (nchar hc0) (dk rfl) ⟨⟨c0, hc0, rfl⟩, rfl⟩ (Nat.le_of_ble_eq_true rfl) (Nat.le_of_ble_eq_true rfl)
  have zero : ∀ l : List (Nat × Value), lsel l [0] = [(0, .int x)] → WR p la e (rmD 4 0 0) s m args below meth c D cA B0 2 (fun v h' => (∃ c0 : Nat, c0 < 256 ∧ v = some (vI c0)) ∧ h' = h) 23 l [] h 0 0 := by
    intro l hl
    refine WS.sel [0] hl ?_
    iterate 3 refine fst1_ok X (dk rfl) rfl ?_
    refine br_ok X (dk rfl) rfl (show ((26 : Nat) : Int) + 16 = ((42 : Nat) : Int) from rfl) (fun _ => ?_) (fun q => absurd rfl q)
    exact low _ rfl
  have hs : StrC D (D.2 50 4) (D.2 51 4) 8 ∨ StrH h (D.2 50 4) (D.2 51 4) 8 := Or.inl ⟨4, by decide, rfl, rfl, rfl⟩
  have S : StrA D h (D.2 50 4) 8 := ⟨_, hs⟩
  iterate 2 refine fst1_ok X (dk rfl) rfl ?_
  refine br_ok X (dk rfl) rfl (show ((3 : Nat) : Int) + 20 = ((23 : Nat) : Int) from rfl) (fun c1 => ?_) (fun c1 => ?_)
  · exact zero _ rfl
  · rw [nI_10] at c1
    iterate 2 refine fst1_ok X (dk rfl) rfl ?_
    refine ldcwT_ok X E 4 (by decide) rfl rfl (dk rfl) ?_
    refine callT_ok (av := []) (r := [.int (Int8.ofInt 10).toInt32, .int x]) X E hs (t_slen h S) lkJ0_length_8abf5 mlX6_325 lmJ0_length_8abf5 lvJ0_length_8abf5 ⟨Nat.le_of_ble_eq_true rfl, Nat.le_of_ble_eq_true rfl⟩ ⟨Nat.le_of_ble_eq_true rfl, Nat.le_of_ble_eq_true rfl⟩ (Nat.le_of_ble_eq_true rfl) (dk rfl) ?_
    rintro _ _ ⟨rfl, rfl⟩
    refine fst1_ok X (dk rfl) rfl ?_
    refine br_ok X (dk rfl) rfl (show ((16 : Nat) : Int) + 7 = ((23 : Nat) : Int) from rfl) (fun c2 => ?_) (fun c2 => ?_)
    · exact zero _ rfl
    · rw [nI_10, nI_add] at c2
      have c3 : ¬ x < 0 := fun z => c1 (Int32.lt_trans z (by decide))
      obtain ⟨t, ht, rfl⟩ := nI_of c3
      have t1 : 10 ≤ t := by
        rcases Nat.lt_or_ge t 10 with q | q
        · exact absurd ((nI_ltI ht (by omega)).mpr q) c1
        · exact q
      have t2 : t < 18 := by
        rcases Nat.lt_or_ge t 18 with q | q
        · exact q
        · exact absurd ((nI_leI (a := 18) (by omega) ht).mpr q) c2
      refine fst1_ok X (dk rfl) rfl ?_
      refine br_ok X (dk rfl) rfl (show ((20 : Nat) : Int) + 4 = ((24 : Nat) : Int) from rfl) (fun _ => ?_) (fun q => absurd trivial q)
      iterate 2 refine fst1_ok X (dk rfl) rfl ?_
      refine br_ok X (dk rfl) rfl (show ((26 : Nat) : Int) + 16 = ((42 : Nat) : Int) from rfl) (fun q => absurd q (by decide)) (fun _ => ?_)
      refine ldcwT_ok X E 4 (by decide) rfl rfl (dk rfl) ?_
      iterate 3 refine fst1_ok X (dk rfl) rfl ?_
      rw [nI_10, nI_sub t1]
      refine callT_ok (av := [vI (t - 10)]) (r := []) X E hs (t_char _ (i := 4) (by decide) (show t - 10 < 8 by omega)) lkJ0_charAt_5068e mlX6_328 lmJ0_charAt_5068e lvJ0_charAt_5068e ⟨Nat.le_of_ble_eq_true rfl, Nat.le_of_ble_eq_true rfl⟩ ⟨Nat.le_of_ble_eq_true rfl, Nat.le_of_ble_eq_true rfl⟩ (Nat.le_of_ble_eq_true rfl) (dk rfl) ?_
      rintro _ _ ⟨⟨c0, hc0, rfl⟩, rfl⟩
      refine br_ok X (dk rfl) rfl (show ((39 : Nat) : Int) + 8 = ((47 : Nat) : Int) from rfl) (fun _ => ?_) (fun q => absurd trivial q)
      exact reti_ok X hr hlk (nchar hc0) (dk rfl) ⟨⟨c0, hc0, rfl⟩, rfl⟩ (Nat.le_of_ble_eq_true rfl) (Nat.le_of_ble_eq_true rfl)
end M98k
