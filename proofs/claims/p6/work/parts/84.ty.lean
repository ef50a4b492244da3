/-! THE CLASS, weakly: a type for each of its cells; what its methods keep -/
abbrev TY : Type := Nat → Option (AC → Prop)
/-- the kinds of the class's cells -/
def ck (k : Nat) : Bool := (Nat.ble 2 k && Nat.ble k 8) || k == 103 || k == 104 || k == 107
def Tyg (Γ : TY) (h : AH) : Prop := ∀ (a : Nat) (φ : AC → Prop), Γ a = some φ → ∃ c, h a = some c ∧ φ c
/-- cells without a type stay -/
def Kds (Γ : TY) (h h' : AH) : Prop := ∀ (a : Nat) (c : AC), h a = some c → Γ a = none → h' a = some c
def TI (Γ : TY) (h h' : AH) : Prop := Tyg Γ h' ∧ Kds Γ h h'
theorem TI.rf {Γ : TY} {h : AH} (I : Tyg Γ h) : TI Γ h h := ⟨I, fun _ _ e _ => e⟩
theorem TI.trans {Γ : TY} {h h1 h2 : AH} (a : TI Γ h h1) (b : TI Γ h1 h2) : TI Γ h h2 := ⟨b.1, fun x c e k => b.2 x c (a.2 x c e k) k⟩
theorem Tyg.put {Γ : TY} {h : AH} (I : Tyg Γ h) {a : Nat} {φ : AC → Prop} (g : Γ a = some φ) {c : AC} (hc : φ c) : Tyg Γ (hup h a c) := by
  intro b ψ hb
  by_cases e : b = a
  · subst e
    rw [g] at hb
    cases hb
    exact ⟨c, hup_self _ _ _, hc⟩
  · rw [hup_ne _ _ e]
    exact I b ψ hb
theorem TI.put {Γ : TY} {h h1 : AH} (J : TI Γ h h1) {a : Nat} {φ : AC → Prop} (g : Γ a = some φ) {c c0 : AC} (h0 : h1 a = some c0) (hc : φ c) (hk : ck c0.1 = true) : TI Γ h (hup h1 a c) := by
  refine ⟨J.1.put g hc, fun b d e k => ?_⟩
  rw [hup_ne _ _ (fun z => by rw [z, g] at k; cases k)]
  exact J.2 b d e k
/-- letters that a text can be made of -/
def LR (x : Int32) : Prop := -97 ≤ x.toInt ∧ x.toInt ≤ 158
theorem LR_nI {n : Nat} (h : n ≤ 158) : LR (nI n) := by
  have e : (nI n).toInt = (n : Int) := by
    show (Int32.ofNat n).toInt = _
    exact Int32.toInt_ofNat_of_lt (by omega)
  exact ⟨by omega, by omega⟩
theorem LR_9 : LR (Int8.ofInt (-9)).toInt32 := ⟨by decide +kernel, by decide +kernel⟩
def letφ (L : Nat) : AC → Prop := fun c => ∃ xs : List Int32, c = (107, xs.map Value.int) ∧ xs.length = L ∧ ∀ x ∈ xs, LR x
def rowφ (L : Nat) : AC → Prop := fun c => ∃ xs : List Int32, c = (107, xs.map Value.int) ∧ xs.length = L
def termφ (q L : Nat) : AC → Prop := fun c => ∃ (f : Nat) (t : Bool), c = (7, [.ref q, vI f, .int (bI t)]) ∧ f ≤ L
def isφ (c0 : AC) : AC → Prop := fun c => c = c0
def pairφ (a b : Nat) : AC → Prop := fun c => ∃ w : Nat, c = (4, [.ref a, .ref b, vI w]) ∧ w ≤ 128
def stepφ (b st pr : Nat) : AC → Prop := fun c => ∃ t e : Int32, c = (6, [.ref b, .ref st, .ref pr, .int t, .int e])
/-- a term with room for L letters -/
def TermT (Γ : TY) (b L : Nat) : Prop := L ≤ 256 ∧ ∃ q, Γ b = some (termφ q L) ∧ Γ q = some (letφ L)
def PairsT (Γ : TY) (b : Nat) : Prop := ∃ a1 a2, Γ b = some (pairφ a1 a2) ∧ Γ a1 = some (rowφ 128) ∧ Γ a2 = some (rowφ 128)
def AnsT (Γ : TY) (b : Nat) : Prop := ∃ (arr : Nat) (ts : List Nat), Γ b = some (isφ (2, [.ref arr])) ∧ Γ arr = some (isφ (103, ts.map Value.ref)) ∧ ts.length = 8 ∧ ∀ t ∈ ts, TermT Γ t 16
def StepsT (Γ : TY) (b : Nat) : Prop := ∃ bo st pr, Γ b = some (stepφ bo st pr) ∧ TermT Γ bo 32 ∧ Γ st = some (rowφ 8) ∧ PairsT Γ pr
def ClassT (Γ : TY) (b : Nat) : Prop := ∃ bo co ho st pr, Γ b = some (isφ (3, [.ref bo, .ref co, .ref ho, .ref st, .ref pr])) ∧ TermT Γ bo 32 ∧ Γ co = some (rowφ 32) ∧ Γ ho = some (rowφ 32) ∧ Γ st = some (rowφ 8) ∧ PairsT Γ pr
def ShapeT (Γ : TY) (b : Nat) : Prop := ∃ pr, Γ b = some (isφ (5, [.ref pr])) ∧ PairsT Γ pr
theorem rw_open {Γ : TY} {h : AH} (I : Tyg Γ h) {q L : Nat} (g : Γ q = some (rowφ L)) : ∃ xs : List Int32, h q = some (107, xs.map Value.int) ∧ xs.length = L := by
  obtain ⟨c, hc, xs, rfl, h1⟩ := I _ _ g
  exact ⟨xs, hc, h1⟩
theorem pr_open {Γ : TY} {h : AH} (I : Tyg Γ h) {b x y : Nat} (g : Γ b = some (pairφ x y)) : ∃ w : Nat, h b = some (4, [.ref x, .ref y, vI w]) ∧ w ≤ 128 := by
  obtain ⟨c, hc, w, rfl, h1⟩ := I _ _ g
  exact ⟨w, hc, h1⟩
theorem st_open {Γ : TY} {h : AH} (I : Tyg Γ h) {b x y z : Nat} (g : Γ b = some (stepφ x y z)) : ∃ t e : Int32, h b = some (6, [.ref x, .ref y, .ref z, .int t, .int e]) := by
  obtain ⟨c, hc, t, e, rfl⟩ := I _ _ g
  exact ⟨t, e, hc⟩
theorem is_open {Γ : TY} {h : AH} (I : Tyg Γ h) {b : Nat} {c0 : AC} (g : Γ b = some (isφ c0)) : h b = some c0 := by
  obtain ⟨c, hc, rfl⟩ := I _ _ g
  exact hc
theorem rowφ_set {L : Nat} {xs : List Int32} (h1 : xs.length = L) (j : Nat) (v : Int32) : rowφ L (107, (xs.set j v).map Value.int) := ⟨_, rfl, by rw [List.length_set]; exact h1⟩
/-- a loop that counts up, a loop that counts down -/
theorem loopUp {P : Int32 → Prop} (st : ∀ j : Int32, (∀ y : Int32, j < y → P (j + Int32.ofInt 1)) → P j) (j : Int32) : P j := by
  have key : ∀ (n : Nat) (j : Int32), (2147483647 - j.toInt).toNat ≤ n → P j := by
    intro n
    induction n with
    | zero =>
      intro j hj
      refine st j (fun y hy => ?_)
      have h1 := Int32.lt_iff_toInt_lt.mp hy
      have h2 := Int32.toInt_lt y
      omega
    | succ n ih =>
      intro j hj
      refine st j (fun y hy => ih _ ?_)
      have h1 := Int32.lt_iff_toInt_lt.mp hy
      have h2 := Int32.toInt_lt y
      have h3 := Int32.le_toInt j
      have e : (j + Int32.ofInt 1).toInt = j.toInt + 1 := by
        rw [Int32.toInt_add, show (Int32.ofInt 1).toInt = 1 by decide]
        exact Int.bmod_eq_of_le (by omega) (by omega)
      omega
  exact key _ j (Nat.le_refl _)
theorem loopDn {P : Int32 → Prop} (st : ∀ j : Int32, (∀ y : Int32, y < j → P (j + Int32.ofInt (-1))) → P j) (j : Int32) : P j := by
  have key : ∀ (n : Nat) (j : Int32), (j.toInt + 2147483648).toNat ≤ n → P j := by
    intro n
    induction n with
    | zero =>
      intro j hj
      refine st j (fun y hy => ?_)
      have h1 := Int32.lt_iff_toInt_lt.mp hy
      have h2 := Int32.le_toInt y
      omega
    | succ n ih =>
      intro j hj
      refine st j (fun y hy => ih _ ?_)
      have h1 := Int32.lt_iff_toInt_lt.mp hy
      have h2 := Int32.le_toInt y
      have h3 := Int32.toInt_lt j
      have e : (j + Int32.ofInt (-1)).toInt = j.toInt - 1 := by
        rw [Int32.toInt_add, show (Int32.ofInt (-1)).toInt = -1 by decide]
        exact Int.bmod_eq_of_le (by omega) (by omega)
      omega
  exact key _ j (Nat.le_refl _)
theorem nlt_of {x y : Int32} (h : ¬ y ≤ x) : x < y := Int32.not_le.mp h
/-- an index that was tested -/
theorem ix_ok {j : Int32} {n : Nat} (hn : n < 2 ^ 31) (h1 : ¬ j < 0) (h2 : ¬ nI n ≤ j) : j.toNatClampNeg < n := by
  obtain ⟨k, hk, rfl⟩ := nI_of h1
  rw [nI_clamp hk]
  exact nI_lt' hk hn h2
section ARR7
variable {p : Program} {la : Launch} {e : Env} {R : Room} {s : State} {m : MethodId} {args : Array Value} {below : List Frame} {meth : Method} {c : Code} {Q : State → Prop}
variable {D : va_G} {cA : Nat → ClassId} {B0 nL : Nat} {cc : ByteArray} {own : String} {pc k n : Nat} {l : List (Nat × Value)} {r : List Value} {h : AH}
theorem ald7_ok (X : CX p s m args c D cA B0 nL cc own) {a : Nat} {xs : List Int32} {j : Int32} (hd : decode cc pc = .ok (.iaload, 1)) (ha : h a = some (107, xs.map Value.int)) (hj : ¬ j < 0) (hl : j.toNatClampNeg < xs.length)
    (kk : ∀ x, x ∈ xs → WS p la e R s m args below meth c Q D cA B0 nL (pc + 1) l (.int x :: r) h k n) : WS p la e R s m args below meth c Q D cA B0 nL pc l (.int j :: .ref a :: r) h k n := by
  obtain ⟨hx, hb, hml, hown, hts, hK, hB⟩ := X
  intro H locs ls hH hls
  obtain ⟨hk7, hc⟩ := (hH.1 a _ ha).2.2 (by show ¬ 107 < 100; omega)
  have hlt : j.toNatClampNeg < (xs.map Value.int).length := by rw [List.length_map]; exact hl
  have hin : ¬ (j < 0 ∨ (arrV (cA 107) (xs.map Value.int).length (vp_V (xs.map Value.int))).slots.size ≤ j.toNatClampNeg) := by
    rw [arrV_size]; rintro (q | q)
    · exact hj q
    · omega
  have hv : (arrV (cA 107) (xs.map Value.int).length (vp_V (xs.map Value.int))).slots[j.toNatClampNeg]? = some (.int (xs[j.toNatClampNeg]'hl)) := by rw [arrV_read _ _ hlt, vp_V_get (v := .int (xs[j.toNatClampNeg]'hl)) (by simp)]
  exact W.iald hx hb hc (hK.arr (k := 107) (by omega) (by omega) _ _) (fun q => by cases q) hin hv rfl rfl hd (kk _ (List.getElem_mem hl) H locs ls hH hls)
theorem alen7_ok (X : CX p s m args c D cA B0 nL cc own) {a L : Nat} {xs : List Int32} (hd : decode cc pc = .ok (.arraylength, 1)) (ha : h a = some (107, xs.map Value.int)) (hl : xs.length = L)
    (kk : WS p la e R s m args below meth c Q D cA B0 nL (pc + 1) l (vI L :: r) h k n) : WS p la e R s m args below meth c Q D cA B0 nL pc l (.ref a :: r) h k n := by
  refine alen_ok X (by decide) hd ha ?_
  rw [List.length_map, hl]
  exact kk
set_option maxHeartbeats 2000000 in
theorem ast7_ok (X : CX p s m args c D cA B0 nL cc own) {a : Nat} {xs : List Int32} {j v : Int32} (hd : decode cc pc = .ok (.iastore, 1)) (ha : h a = some (107, xs.map Value.int)) (hj : ¬ j < 0) (hl : j.toNatClampNeg < xs.length)
    (kk : WS p la e R s m args below meth c Q D cA B0 nL (pc + 1) l r (hup h a (107, (xs.set j.toNatClampNeg v).map Value.int)) k n) : WS p la e R s m args below meth c Q D cA B0 nL pc l (.int v :: .int j :: .ref a :: r) h k n := by
  obtain ⟨hx, hb, hml, hown, hts, hK, hB⟩ := X
  intro H locs ls hH hls
  have hnl : ¬ 107 < 100 := by omega
  obtain ⟨hk7, hc⟩ := (hH.1 a _ ha).2.2 hnl
  have hlt : j.toNatClampNeg < (xs.map Value.int).length := by rw [List.length_map]; exact hl
  have hin : ¬ (j < 0 ∨ (arrV (cA 107) (xs.map Value.int).length (vp_V (xs.map Value.int))).slots.size ≤ j.toNatClampNeg) := by
    rw [arrV_size]; rintro (q | q)
    · exact hj q
    · omega
  refine W.iast hx hb hc (hK.arr (k := 107) (by omega) (by omega) _ _) (fun q => by cases q) hin rfl rfl hd (fun H1 e1 e2 e3 => ?_)
  refine kk H1 _ ls ⟨hH.1.put ha ⟨fun z => absurd z hnl, fun _ => ⟨hk7, ?_⟩⟩ e3, hH.2.put e2 e3 (hH.1 a _ ha).1⟩ hls
  rw [e1, arrV_store, setV hlt, List.map_set]
/-- a new row of numbers of the class -/
theorem newa7_ok (X : CX p s m args c D cA B0 nL cc own) {j : Int32} (hw : Cond.arrayClass .int ∈ WT) (hd : decode cc pc = .ok (.newarray .int, 2)) (hj : ¬ j < 0) (hj2 : j.toNatClampNeg ≤ 1000) (hr1 : k + 1 ≤ R.cells) (hr2 : n + j.toNatClampNeg ≤ R.slots)
    (kk : ∀ q : Nat, h q = none → B0 ≤ q → WS p la e R s m args below meth c Q D cA B0 nL (pc + 2) l (.ref q :: r) (hup h q (107, (List.replicate j.toNatClampNeg (0 : Int32)).map Value.int)) (k + 1) (n + j.toNatClampNeg)) : WS p la e R s m args below meth c Q D cA B0 nL pc l (.int j :: r) h k n := by
  obtain ⟨hx, hb, hml, hown, hts, hK, hB⟩ := X
  intro H locs ls hH hls
  have hBH : B0 ≤ H.size := Nat.le_trans hB hH.2.1
  refine va_newaK (atype := .int) hx hb (hts _ hw) rfl hd rfl hj rfl (by show j.toNatClampNeg * 4 ≤ 536870912; omega) hr1 hr2 rfl fun H1 cA' e1 z1 o1 hAr hNm => ?_
  refine kk H.size (hH.1.fresh) hBH H1 _ ls ⟨hH.1.push hBH ⟨fun z => absurd z (show ¬ 107 < 100 by omega), fun _ => ⟨(show 107 < 108 by omega), ?_⟩⟩ o1, Nat.le_trans hH.2.1 (by omega), fun x h1 h2 => (o1 x (Nat.lt_of_lt_of_le h1 hH.2.1)).trans (hH.2.2.1 x h1 h2), hH.2.2.2⟩ hls
  have hcA : cA' = cA 107 := by
    obtain ⟨_, _, -, -, k3, -⟩ := hK.2 107 (by decide) (by decide)
    exact Option.some.inj (hNm.symm.trans k3)
  rw [e1, hcA]
  show some (arrV (cA 107) j.toNatClampNeg fun _ => Value.int 0) = some (arrV (cA 107) ((List.replicate j.toNatClampNeg (0 : Int32)).map Value.int).length (vp_V ((List.replicate j.toNatClampNeg (0 : Int32)).map Value.int)))
  rw [List.length_map, List.length_replicate]
  congr 1
  unfold arrV
  congr 2
  funext q
  rw [vp_V_get (v := .int 0)]
  simp
/-- an entry of a row of references -/
theorem aldr_ok (X : CX p s m args c D cA B0 nL cc own) {a kd j q : Nat} {as : List Nat} (hkd : kd = 103 ∨ kd = 104) (hd : decode cc pc = .ok (.aaload, 1)) (ha : h a = some (kd, as.map Value.ref)) (hj : j < 2 ^ 31) (hq : as[j]? = some q)
    (kk : WS p la e R s m args below meth c Q D cA B0 nL (pc + 1) l (.ref q :: r) h k n) : WS p la e R s m args below meth c Q D cA B0 nL pc l (vI j :: .ref a :: r) h k n :=
  ald_ok X (Or.inr (Or.inr ⟨rfl, by omega, by omega⟩)) hd ha (inA_nI (v := .ref q) hj (by rw [List.getElem?_map, hq]; rfl)) kk
end ARR7
