/-! THE SINGLE STEPS: fields of nest mates, arrays, making -/
def isNest : Cond → Bool
  | .methodLinkNest _ _ _ _ => true
  | .fieldLinkNest _ _ _ _ _ _ => true
  | .declares _ => true
  | .castable _ _ => true
  | _ => false
/-- a field of a nest mate by its pool number -/
def FLN (own : String) (idx ci kf : Nat) : Prop := ∃ (C : String) (T : u_T) (N : Nat) (host : String), vwCl[ci]? = some (C, T, N) ∧ (∀ w ∈ u_ws C T N, w ∈ WT) ∧ kf < N ∧ Cond.fieldLinkNest own idx C (T kf).2.1 (T kf).2.2.1 host ∈ lw_tbl ∧ (T kf).1 = C
/-- an array of the right component, indices in it -/
def inA (i : Int32) (vs : List Value) (v : Value) : Prop := ¬ i < 0 ∧ vs[i.toNatClampNeg]? = some v
def isLd (i : Instr) (kd : Nat) : Prop := (i = .iaload ∧ kd = 100) ∨ (i = .baload ∧ kd = 101) ∨ (i = .aaload ∧ 103 ≤ kd ∧ kd < 107)
theorem vp_V_get {vs : List Value} {j : Nat} {v : Value} (h : vs[j]? = some v) : vp_V vs j = v := by simp [vp_V, h]
theorem aty103 : aty 103 = .object RX5 := rfl
theorem aty104 : aty 104 = .object RX0 := rfl
theorem aty105 : aty 105 = .array .int := rfl
theorem aty106 : aty 106 = .array (.array .int) := rfl
section ARR
variable {p : Program} {la : Launch} {e : Env} {R : Room} {s : State} {m : MethodId} {args : Array Value} {below : List Frame} {meth : Method} {c : Code} {Q : State → Prop}
variable {D : va_G} {cA : Nat → ClassId} {B0 nL : Nat} {cc : ByteArray} {own : String} {pc k n : Nat} {l : List (Nat × Value)} {r : List Value} {h : AH}
theorem ald_ok (X : CX p s m args c D cA B0 nL cc own) {i : Instr} {kd a : Nat} {vs : List Value} {j : Int32} {v : Value} (hi : isLd i kd) (hd : decode cc pc = .ok (i, 1)) (ha : h a = some (kd, vs)) (hj : inA j vs v)
    (kk : WS p la e R s m args below meth c Q D cA B0 nL (pc + 1) l (v :: r) h k n) : WS p la e R s m args below meth c Q D cA B0 nL pc l (.int j :: .ref a :: r) h k n := by
  obtain ⟨hx, hb, hml, hown, hts, hK, hB⟩ := X
  intro H locs ls hH hls
  have hnl : ¬ kd < 100 := by rcases hi with ⟨-, q⟩ | ⟨-, q⟩ | ⟨-, q⟩ <;> omega
  obtain ⟨hk7, hc⟩ := (hH.1 a _ ha).2.2 hnl
  have hlt : j.toNatClampNeg < vs.length := (List.getElem?_eq_some_iff.mp hj.2).1
  have hin : ¬ (j < 0 ∨ (arrV (cA kd) vs.length (vp_V vs)).slots.size ≤ j.toNatClampNeg) := by
    rw [arrV_size]; rintro (q | q)
    · exact hj.1 q
    · omega
  have hv : (arrV (cA kd) vs.length (vp_V vs)).slots[j.toNatClampNeg]? = some v := by rw [arrV_read _ _ hlt, vp_V_get hj.2]
  have hA := hK.arr (k := kd) (by omega) hk7 vs.length (vp_V vs)
  rcases hi with ⟨rfl, rfl⟩ | ⟨rfl, rfl⟩ | ⟨rfl, h3⟩
  · exact W.iald hx hb hc hA (fun q => by cases q) hin hv rfl rfl hd (kk H locs ls hH hls)
  · exact W.zald hx hb hc hA (fun q => by cases q) hin hv rfl rfl hd (kk H locs ls hH hls)
  · refine W.aald hx hb hc hA ?_ (fun q => by cases q) hin hv rfl rfl hd (kk H locs ls hH hls)
    have h4 : kd = 103 ∨ kd = 104 ∨ kd = 105 ∨ kd = 106 := by omega
    rcases h4 with rfl | rfl | rfl | rfl <;> rfl
theorem alen_ok (X : CX p s m args c D cA B0 nL cc own) {kd a : Nat} {vs : List Value} (hkd : 100 ≤ kd) (hd : decode cc pc = .ok (.arraylength, 1)) (ha : h a = some (kd, vs))
    (kk : WS p la e R s m args below meth c Q D cA B0 nL (pc + 1) l (.int (nI vs.length) :: r) h k n) : WS p la e R s m args below meth c Q D cA B0 nL pc l (.ref a :: r) h k n := by
  obtain ⟨hx, hb, hml, hown, hts, hK, hB⟩ := X
  intro H locs ls hH hls
  obtain ⟨hk7, hc⟩ := (hH.1 a _ ha).2.2 (by show ¬ kd < 100; omega)
  exact W.alen hx hb hc (hK.arr (k := kd) (by omega) hk7 vs.length (vp_V vs)) (by rw [arrV_size]; rfl) rfl rfl hd (kk H locs ls hH hls)
theorem setV {vs : List Value} {j : Nat} (hj : j < vs.length) (x : Value) (cI : ClassId) : arrV cI vs.length (updV (vp_V vs) j x) = arrV cI (vs.set j x).length (vp_V (vs.set j x)) := by
  rw [List.length_set]
  congr 1
  funext q
  exact vp_updV_set hj x q
/-- a store: int arrays, boolean arrays (0 or 1), arrays of references (null, or a thing of the component's class) -/
def isSt (i : Instr) (kd : Nat) (v : Value) (h : AH) : Prop := (i = .iastore ∧ kd = 100 ∧ ∃ x, v = .int x) ∨ (i = .bastore ∧ kd = 101 ∧ (v = .int 0 ∨ v = .int 1)) ∨
  (i = .aastore ∧ kd = 103 ∧ ∃ q fs, v = .ref q ∧ h q = some (7, fs)) ∨ (i = .aastore ∧ kd = 104 ∧ ∃ q fs, v = .ref q ∧ h q = some (2, fs)) ∨
  (i = .aastore ∧ kd = 105 ∧ ∃ q fs, v = .ref q ∧ h q = some (100, fs)) ∨ (i = .aastore ∧ kd = 106 ∧ ∃ q fs, v = .ref q ∧ h q = some (105, fs))
set_option maxHeartbeats 2000000 in
theorem ast_ok (X : CX p s m args c D cA B0 nL cc own) {i : Instr} {kd a : Nat} {vs : List Value} {j : Int32} {v : Value} (hi : isSt i kd v h) (hd : decode cc pc = .ok (i, 1)) (ha : h a = some (kd, vs)) (hj : ¬ j < 0 ∧ j.toNatClampNeg < vs.length)
    (kk : WS p la e R s m args below meth c Q D cA B0 nL (pc + 1) l r (hup h a (kd, vs.set j.toNatClampNeg v)) k n) : WS p la e R s m args below meth c Q D cA B0 nL pc l (v :: .int j :: .ref a :: r) h k n := by
  obtain ⟨hx, hb, hml, hown, hts, hK, hB⟩ := X
  intro H locs ls hH hls
  have hnl : ¬ kd < 100 := by rcases hi with ⟨-, q, -⟩ | ⟨-, q, -⟩ | ⟨-, q, -⟩ | ⟨-, q, -⟩ | ⟨-, q, -⟩ | ⟨-, q, -⟩ <;> omega
  obtain ⟨hk7, hc⟩ := (hH.1 a _ ha).2.2 hnl
  have hlt : j.toNatClampNeg < vs.length := hj.2
  have hin : ¬ (j < 0 ∨ (arrV (cA kd) vs.length (vp_V vs)).slots.size ≤ j.toNatClampNeg) := by
    rw [arrV_size]; rintro (q | q)
    · exact hj.1 q
    · omega
  have hA := hK.arr (k := kd) (by omega) hk7 vs.length (vp_V vs)
  have fin' : ∀ (H1 : Heap), H1[a]? = some ((arrV (cA kd) vs.length (vp_V vs)).setSlot j.toNatClampNeg v) → H1.size = H.size → (∀ q, q ≠ a → H1[q]? = H[q]?) → W p la e R s m args below meth c H1 (locs ++ [⟨a, j.toNatClampNeg⟩]) k n Q (F0 m (pc + 1) ls r) := by
    intro H1 e1 e2 e3
    refine kk H1 _ ls ⟨hH.1.put ha ⟨fun z => absurd z hnl, fun _ => ⟨hk7, ?_⟩⟩ e3, hH.2.put e2 e3 (hH.1 a _ ha).1⟩ hls
    rw [e1, arrV_store, setV hlt]
  have refs : ∀ (q kv : Nat) (fs : List Value), i = .aastore → v = .ref q → h q = some (kv, fs) → (aty kd).isReference = true → (kv < 100 → ∃ C T N, vwCl[kv]? = some (C, T, N) ∧ cnm (aty kd) = C) → (¬ kv < 100 → "[" ++ (aty kv).toString = cnm (aty kd)) → W p la e R s m args below meth c H locs k n Q (F0 m pc ls (v :: .int j :: .ref a :: r)) := by
    intro q kv fs e1 e2 hq href hobj harr
    subst e1; subst e2
    obtain ⟨kA, comp, k1, k2, k3, k4⟩ := hK.2 kd (by omega) hk7
    have k4 := k4 href
    obtain ⟨kcomp, hkcomp, -⟩ := Vm.findClass_spec k4
    have hq2 := (hH.1 q _ hq).2
    by_cases hkv : kv < 100
    · obtain ⟨C, T, N, hc1, hc2⟩ := hobj hkv
      obtain ⟨r1, g0, -, cellV, g1, g2, g3, -⟩ := hq2.1 hkv
      cases hc1.symm.trans g0
      have hcls := (hK.1.1 kv _ hc1).2
      have hcomp : comp = D.1 kv := Option.some.inj (k4.symm.trans (by rw [hc2]; exact hcls.1))
      subst hcomp
      exact W.aast hx hb hc (fun q h => by cases h) (fun h => by cases h) k1 k2 href hkcomp ⟨hj.1, by rw [arrV_size]; exact hlt⟩ g1 (fun q h => by rw [g3] at h; cases h) (by rw [g2]; exact hkcomp) (by rw [g2]; exact va_assign hcls) rfl rfl hd fin'
    · obtain ⟨g0, g1⟩ := hq2.2 hkv
      obtain ⟨kA2, comp2, m1, m2, m3, -⟩ := hK.2 kv (by omega) g0
      have hcomp : comp = cA kv := Option.some.inj (k4.symm.trans (by rw [← harr hkv]; exact m3))
      subst hcomp
      exact W.aast hx hb hc (fun q h => by cases h) (fun h => by cases h) k1 k2 href hkcomp ⟨hj.1, by rw [arrV_size]; exact hlt⟩ g1 (fun q h => by cases h) hkcomp (va_asg _ _) rfl rfl hd fin'
  rcases hi with ⟨rfl, rfl, x, rfl⟩ | ⟨rfl, rfl, hv⟩ | ⟨e1, rfl, q, fs, e2, hq⟩ | ⟨e1, rfl, q, fs, e2, hq⟩ | ⟨e1, rfl, q, fs, e2, hq⟩ | ⟨e1, rfl, q, fs, e2, hq⟩
  · exact W.iast hx hb hc hA (fun q => by cases q) hin rfl rfl hd fin'
  · rcases hv with rfl | rfl
    · exact W.zast hx hb hc hA (fun q => by cases q) hin rfl rfl hd fin'
    · exact W.zast hx hb hc hA (fun q => by cases q) hin rfl rfl hd fin'
  · exact refs q 7 fs e1 e2 hq rfl (fun _ => ⟨_, _, _, rfl, rfl⟩) (fun z => absurd (by decide) z)
  · exact refs q 2 fs e1 e2 hq rfl (fun _ => ⟨_, _, _, rfl, rfl⟩) (fun z => absurd (by decide) z)
  · exact refs q 100 fs e1 e2 hq rfl (fun z => absurd z (by decide)) (fun _ => by decide +kernel)
  · exact refs q 105 fs e1 e2 hq rfl (fun z => absurd z (by decide)) (fun _ => by decide +kernel)
theorem aastN0 {T : State} {locs : List Loc} {cells slots : Nat} (X : Stand p la e R s m args below meth c T locs cells slots) (hexec : p.tables.exec = Jvm.exec) {a : Addr} {cell : Cell} {t : FieldType} {j : Int32} (hcell : T.heap[a]? = some cell) (harr : s.isArrayOf cell (.array t)) (hknown : cell.vm ≠ .unknown)
    (hin : ¬ (j < 0 ∨ cell.slots.size ≤ j.toNatClampNeg))
    {g : JFrame} (hg : g.method = m) {rest : List Value} (hstack : g.stack = .null :: .int j :: .ref a :: rest) (hdg : decode c.code g.pc = .ok (.aastore, 1)) :
    Stand p la e R s m args below meth c (T.setCell a (cell.setSlot j.toNatClampNeg .null)) (locs ++ [⟨a, j.toNatClampNeg⟩]) cells slots ∧
      ∀ target, Steps p.tables e below ((T.setCell a (cell.setSlot j.toNatClampNeg .null)).setTop { g with pc := g.pc + 1, stack := rest }) target → Steps p.tables e below (T.setTop g) target := by
  have hT := State.isArrayOf_alike X.warmed.alike harr
  have hfit : T.fitsSlot cell.cls cell.vm j.toNatClampNeg .null = true := by
    obtain ⟨hobj, k, hk, comp, hkind⟩ := hT
    cases hvm : cell.vm <;> first | exact absurd hvm (hobj _) | simp [State.fitsSlot, State.slotType?, hk, hkind, fits]
  refine ⟨X.stored hcell _ _, fun target hrest => ?_⟩
  subst hg
  jvm_step X.here [hexec, hdg]
  refine aastore.wp_of_null (c := cell) (t := .array t) X.here.top hstack hcell hT hin hknown (Nat.not_le.mp fun q => hin (Or.inr q)) hfit ?_
  intro acts
  rw [afterInstr_ok]
  exact hrest
theorem astN_ok (X : CX p s m args c D cA B0 nL cc own) {kd a : Nat} {vs : List Value} {j : Int32} (hd : decode cc pc = .ok (.aastore, 1)) (ha : h a = some (kd, vs)) (hkd : kd = 105) (hj : ¬ j < 0 ∧ j.toNatClampNeg < vs.length)
    (kk : WS p la e R s m args below meth c Q D cA B0 nL (pc + 1) l r (hup h a (kd, vs.set j.toNatClampNeg .null)) k n) : WS p la e R s m args below meth c Q D cA B0 nL pc l (.null :: .int j :: .ref a :: r) h k n := by
  obtain ⟨hx, hb, hml, hown, hts, hK, hB⟩ := X
  subst hkd
  intro H locs ls hH hls T hT X
  obtain ⟨hk7, hc⟩ := (hH.1 a _ ha).2.2 (by show ¬ 105 < 100; omega)
  have hlt : j.toNatClampNeg < vs.length := hj.2
  have hin : ¬ (j < 0 ∨ (arrV (cA 105) vs.length (vp_V vs)).slots.size ≤ j.toNatClampNeg) := by
    rw [arrV_size]; rintro (q | q)
    · exact hj.1 q
    · omega
  have hT' : T.heap[a]? = some (arrV (cA 105) vs.length (vp_V vs)) := by rw [hT]; exact hc
  obtain ⟨X', st⟩ := aastN0 X hx hT' (hK.arr (k := 105) (by omega) (by omega) vs.length (vp_V vs)) (fun q => by cases q) hin (g := F0 m pc ls (.null :: .int j :: .ref a :: r)) rfl rfl (by rw [hb]; exact hd)
  have hlt2 : a < T.heap.size := (Array.getElem?_eq_some_iff.mp hT').1
  have e3 : ∀ q : Nat, q ≠ a → (T.setCell a ((arrV (cA 105) vs.length (vp_V vs)).setSlot j.toNatClampNeg .null)).heap[q]? = H[q]? := fun q hq => by rw [heapAt_setCell_ne _ (Ne.symm hq), hT]
  have e2 : (T.setCell a ((arrV (cA 105) vs.length (vp_V vs)).setSlot j.toNatClampNeg .null)).heap.size = H.size := by rw [size_setCell, hT]
  obtain ⟨t', a1, b1⟩ := kk _ _ ls ⟨hH.1.put ha ⟨fun z => absurd z (by simp), fun _ => ⟨hk7, by rw [heapAt_setCell_self _ hlt2, arrV_store, setV hlt]⟩⟩ e3, hH.2.put e2 e3 (hH.1 a _ ha).1⟩ hls (T.setCell a ((arrV (cA 105) vs.length (vp_V vs)).setSlot j.toNatClampNeg .null)) rfl X'
  exact ⟨t', st t' a1, b1⟩
theorem getfN_ok (X : CX p s m args c D cA B0 nL cc own) (hw : ∀ w ∈ lw_tbl, isNest w = true → va_Nw w s) {idx ci kf a : Nat} {fs : List Value} {v : Value} (hF : FLN own idx ci kf) (hd : decode cc pc = .ok (.getfield idx, 3)) (ha : h a = some (ci, fs)) (hv : fs[kf]? = some v)
    (kk : WS p la e R s m args below meth c Q D cA B0 nL (pc + 3) l (v :: r) h k n) : WS p la e R s m args below meth c Q D cA B0 nL pc l (.ref a :: r) h k n := by
  obtain ⟨hx, hb, hml, hown, hts, hK, hB⟩ := X
  obtain ⟨C, T, N, host, hc, hin, hk, hl, hC⟩ := hF
  intro H locs ls hH hls
  obtain ⟨r0, h1, h2, cell, q1, q2, q3, q4⟩ := (hH.1 a _ ha).2.1 (vwCl_lt hc)
  have hr : r0 = (C, T, N) := Option.some.inj (h1.symm.trans hc)
  subst hr
  obtain ⟨hS, hfc, kC, hkC, hkind⟩ := hK.1.1 ci _ hc
  obtain ⟨cf, kf0, fi, f, hi, hsl⟩ := hS kf hk
  refine va_Wgetf hx hb hown (va_Nw.use rfl (hw _ hl rfl)) (by rw [← hC]; exact hi) (u_facts hfc hkC (u_lays hts hin hk) hi).1 q1 (by rw [q3]; exact fun h => by cases h) (v := v) ?_ rfl rfl hd (kk H locs ls hH hls)
  rw [hsl, q4 kf hk]
  simp [vp_V, hv]
/-- a new array of numbers -/
theorem newa_ok (X : CX p s m args c D cA B0 nL cc own) {at' : ArrayType} {kd : Nat} {j : Int32} (hk : (at' = .int ∧ kd = 100) ∨ (at' = .boolean ∧ kd = 101)) (hw : Cond.arrayClass (newarray.typeOf at') ∈ WT) (hd : decode cc pc = .ok (.newarray at', 2)) (hj : ¬ j < 0) (hj2 : j.toNatClampNeg ≤ 1000) (hr1 : k + 1 ≤ R.cells) (hr2 : n + j.toNatClampNeg ≤ R.slots)
    (kk : ∀ q : Nat, h q = none → B0 ≤ q → WS p la e R s m args below meth c Q D cA B0 nL (pc + 2) l (.ref q :: r) (hup h q (kd, List.replicate j.toNatClampNeg (.int 0))) (k + 1) (n + j.toNatClampNeg)) : WS p la e R s m args below meth c Q D cA B0 nL pc l (.int j :: r) h k n := by
  obtain ⟨hx, hb, hml, hown, hts, hK, hB⟩ := X
  intro H locs ls hH hls
  have hBH : B0 ≤ H.size := Nat.le_trans hB hH.2.1
  have hbytes : j.toNatClampNeg * componentBytes (newarray.typeOf at') ≤ 536870912 := by
    rcases hk with ⟨rfl, rfl⟩ | ⟨rfl, rfl⟩
    · show j.toNatClampNeg * 4 ≤ 536870912; omega
    · show j.toNatClampNeg * 1 ≤ 536870912; omega
  refine va_newaK hx hb (hts _ hw) rfl hd rfl hj rfl hbytes hr1 hr2 rfl fun H1 cA' e1 z1 o1 hAr hNm => ?_
  refine kk H.size (hH.1.fresh) hBH H1 _ ls ⟨hH.1.push hBH ⟨fun z => ?_, fun _ => ⟨?_, ?_⟩⟩ o1, Nat.le_trans hH.2.1 (by omega), fun x h1 h2 => (o1 x (Nat.lt_of_lt_of_le h1 hH.2.1)).trans (hH.2.2.1 x h1 h2), hH.2.2.2⟩ hls
  · rcases hk with ⟨-, rfl⟩ | ⟨-, rfl⟩ <;> exact absurd z (by simp)
  · rcases hk with ⟨-, rfl⟩ | ⟨-, rfl⟩ <;> simp
  · have hcA : cA' = cA kd := by
      rcases hk with ⟨rfl, rfl⟩ | ⟨rfl, rfl⟩
      · obtain ⟨_, _, -, -, k3, -⟩ := hK.2 100 (by decide) (by decide)
        exact Option.some.inj (hNm.symm.trans k3)
      · obtain ⟨_, _, -, -, k3, -⟩ := hK.2 101 (by decide) (by decide)
        exact Option.some.inj (hNm.symm.trans k3)
    rw [e1, hcA]
    have hdv : defaultValue (newarray.typeOf at') = .int 0 := by rcases hk with ⟨rfl, -⟩ | ⟨rfl, -⟩ <;> rfl
    rw [hdv]
    show some (arrV (cA kd) j.toNatClampNeg fun _ => Value.int 0) = some (arrV (cA kd) (List.replicate j.toNatClampNeg (Value.int 0)).length (vp_V (List.replicate j.toNatClampNeg (Value.int 0))))
    rw [List.length_replicate]
    congr 1
    unfold arrV
    congr 2
    funext q
    rw [vp_V_get (v := .int 0)]
    simp
theorem newq_fin (hK : KO D cA s) (hB : B0 ≤ s.heap.size) {H : Heap} {locs : List Loc} {ls : Array Slot} (hH : HS D cA B0 s h H locs) (hls : lv_has ls nL l) {kd N : Nat} (hkd : 103 ≤ kd) (hkd2 : kd < 107) {cA' : ClassId} (hNm : s.vm.findClass ("[" ++ (aty kd).toString) = some cA')
    (kk : ∀ q : Nat, h q = none → B0 ≤ q → WS p la e R s m args below meth c Q D cA B0 nL (pc + 3) l (.ref q :: r) (hup h q (kd, List.replicate N .null)) (k + 1) (n + N)) :
    W p la e R s m args below meth c (H.push { cls := cA', slots := Array.replicate N .null, vm := .none }) locs (k + 1) (n + N) Q (F0 m (pc + 3) ls (.ref H.size :: r)) := by
  have hBH : B0 ≤ H.size := Nat.le_trans hB hH.2.1
  have o1 : ∀ q : Nat, q < H.size → (H.push ({ cls := cA', slots := Array.replicate N .null, vm := .none } : Cell))[q]? = H[q]? := fun q hq => by rw [Array.getElem?_push, if_neg (Nat.ne_of_lt hq)]
  refine kk H.size (hH.1.fresh) hBH _ _ ls ⟨hH.1.push hBH ⟨fun z => absurd z (by simp; omega), fun _ => ⟨(show kd < 108 by omega), ?_⟩⟩ o1, by rw [Array.size_push]; exact Nat.le_trans hH.2.1 (by omega), fun x h1 h2 => (o1 x (Nat.lt_of_lt_of_le h1 hH.2.1)).trans (hH.2.2.1 x h1 h2), hH.2.2.2⟩ hls
  obtain ⟨_, _, -, -, k3, -⟩ := hK.2 kd (by omega) (by omega)
  have hcA : cA' = cA kd := Option.some.inj (hNm.symm.trans k3)
  rw [Array.getElem?_push_size, hcA, arrV_new]
  show some (arrV (cA kd) N fun _ => Value.null) = some (arrV (cA kd) (List.replicate N Value.null).length (vp_V (List.replicate N Value.null)))
  rw [List.length_replicate]
  congr 1
  unfold arrV
  congr 2
  funext q
  rw [vp_V_get (v := .null)]
  simp
theorem anew_ok (X : CX p s m args c D cA B0 nL cc own) {idx kd : Nat} {j : Int32} (hkd : 103 ≤ kd ∧ kd < 107) (hl : Cond.classLink own idx (cnm (aty kd)) ∈ WT) (ho : (Cond.arrayOver (aty kd)).before args s = true) (hd : decode cc pc = .ok (.anewarray idx, 3)) (hj : ¬ j < 0) (hj2 : j.toNatClampNeg ≤ 1000) (hr1 : k + 1 ≤ R.cells) (hr2 : n + j.toNatClampNeg ≤ R.slots)
    (kk : ∀ q : Nat, h q = none → B0 ≤ q → WS p la e R s m args below meth c Q D cA B0 nL (pc + 3) l (.ref q :: r) (hup h q (kd, List.replicate j.toNatClampNeg .null)) (k + 1) (n + j.toNatClampNeg)) : WS p la e R s m args below meth c Q D cA B0 nL pc l (.int j :: r) h k n := by
  obtain ⟨hx, hb, hml, hown, hts, hK, hB⟩ := X
  intro H locs ls hH hls
  have h4 : kd = 103 ∨ kd = 104 ∨ kd = 105 ∨ kd = 106 := by omega
  rcases h4 with rfl | rfl | rfl | rfl
  · rw [aty103] at hl ho
    exact W.anew (C := RX5) hx hb hown (hts _ hl) ho rfl hd rfl hj (by omega) hr1 hr2 fun cA' kA comp f1 f2 f3 f4 => newq_fin (kd := 103) hK hB hH hls (by omega) (by omega) (by rw [aty103]; exact f1) kk
  · rw [aty104] at hl ho
    exact W.anew (C := RX0) hx hb hown (hts _ hl) ho rfl hd rfl hj (by omega) hr1 hr2 fun cA' kA comp f1 f2 f3 f4 => newq_fin (kd := 104) hK hB hH hls (by omega) (by omega) (by rw [aty104]; exact f1) kk
  · rw [aty105] at hl ho
    exact W.anewA (t := .int) hx hb hown (hts _ hl) ho rfl hd rfl hj (by omega) hr1 hr2 fun cA' kA comp f1 f2 f3 f4 => newq_fin (kd := 105) hK hB hH hls (by omega) (by omega) (by rw [aty105]; exact f1) kk
  · rw [aty106] at hl ho
    exact W.anewA (t := (.array .int)) hx hb hown (hts _ hl) ho rfl hd rfl hj (by omega) hr1 hr2 fun cA' kA comp f1 f2 f3 f4 => newq_fin (kd := 106) hK hB hH hls (by omega) (by omega) (by rw [aty106]; exact f1) kk
/-- a class whose objects are made, with the values of a new one -/
def NC (own : String) (idx ci : Nat) (fs : List Value) : Prop := ∃ (C : String) (T : u_T) (N : Nat) (ty : Nat → FieldType), vwCl[ci]? = some (C, T, N) ∧ (∀ w ∈ u_ws C T N, w ∈ WT) ∧ (∀ k, k < N → parseFieldDescriptor (T k).2.2.1 = some (ty k)) ∧ fs.length = N ∧ (∀ j, j < N → defaultValue (ty j) = vp_V fs j) ∧
  Cond.classLink own idx C ∈ WT ∧ Cond.instantiable C N ∈ WT ∧ Cond.initialized C ∈ WT
theorem new_ok (X : CX p s m args c D cA B0 nL cc own) {idx ci : Nat} {fs : List Value} (hN : NC own idx ci fs) (hd : decode cc pc = .ok (.new idx, 3)) (hr1 : k + 1 ≤ R.cells) (hr2 : n + fs.length ≤ R.slots)
    (kk : ∀ q : Nat, h q = none → B0 ≤ q → WS p la e R s m args below meth c Q D cA B0 nL (pc + 3) l (.ref q :: r) (hup h q (ci, fs)) (k + 1) (n + fs.length)) : WS p la e R s m args below meth c Q D cA B0 nL pc l r h k n := by
  obtain ⟨hx, hb, hml, hown, hts, hK, hB⟩ := X
  obtain ⟨C, T, N, ty, hc, hin, hty, hlen, hdv, w1, w2, w3⟩ := hN
  subst hlen
  intro H locs ls hH hls
  have hBH : B0 ≤ H.size := Nat.le_trans hB hH.2.1
  have hKn := hK.1.1 ci _ hc
  refine W.newcK hx hb hown (hts _ w1) (hts _ w2) (hts _ w3) rfl hd hr1 hr2 hKn.2.1 rfl fun H1 kC hkC e1 z1 o1 => ?_
  exact kk H.size (hH.1.fresh) hBH H1 _ ls ⟨hH.1.push hBH ⟨fun _ => ⟨_, hc, rfl, (u_born ty hts hin hKn hkC e1 hty).to hdv⟩, fun z => absurd (vwCl_lt hc) z⟩ o1, Nat.le_trans hH.2.1 (by omega), fun x h1 h2 => (o1 x (Nat.lt_of_lt_of_le h1 hH.2.1)).trans (hH.2.2.1 x h1 h2), hH.2.2.2⟩ hls
end ARR
