/-! texts of the reference and of the class (printed by wip/p40/genU.py) -/
theorem ncB (own : String) (idx : Nat) (h1 : Cond.classLink own idx RJ4 ∈ WT) (h2 : Cond.instantiable RJ4 4 ∈ WT) : NC own idx 1 [.null, .int 0, .int 0, .int 0] := by
  refine ⟨RJ4, TJ4, 4, tyJ4, rfl, cwJ4, tyJ4_ok, rfl, fun j hj => ?_, h1, h2, liJ4⟩
  match j, hj with
  | 0, _ => rfl
  | 1, _ => rfl
  | 2, _ => rfl
  | 3, _ => rfl
set_option maxRecDepth 100000 in
theorem insJ4 : Cond.instantiable RJ4 4 ∈ WT := WT_of (tbw_4 (List.mem_of_getElem? (i := 142) rfl)) rfl
set_option maxRecDepth 100000 in
theorem ncX10_173 : NC RX10 173 1 [.null, .int 0, .int 0, .int 0] := ncB _ _ (WT_of (by decide +kernel) rfl) insJ4
set_option maxRecDepth 100000 in
theorem ncX6_332 : NC RX6 332 1 [.null, .int 0, .int 0, .int 0] := ncB _ _ (WT_of (by decide +kernel) rfl) insJ4
/-- a builder that is new since h0, all of h0 stays -/
def SBst (h0 h : AH) (b nn : Nat) : Prop := ∃ v mm, SBp h b v nn mm ∧ h0 b = none ∧ h0 v = none ∧ Ext h0 h
/-- a builder and a text that isn't its row -/
def SBss (D : va_G) (h0 h : AH) (b nn sa n2 : Nat) : Prop := ∃ v mm, SBp h b v nn mm ∧ h0 b = none ∧ h0 v = none ∧ Ext h0 h ∧ StrS D h sa v n2
theorem SBst.ext {h0 h h2 : AH} {b nn : Nat} (S : SBst h0 h b nn) (E : Ext h h2) : SBst h0 h2 b nn := by
  obtain ⟨v, mm, ⟨t, bs, b1, b2, b3⟩, h1, h3, h4⟩ := S
  exact ⟨v, mm, ⟨t, bs, E _ _ b1, E _ _ b2, b3⟩, h1, h3, h4.trans E⟩
theorem SBst.base {h0 h : AH} {b nn : Nat} (S : SBst h0 h b nn) : Ext h0 h := by
  obtain ⟨v, mm, -, -, -, h4⟩ := S
  exact h4
theorem SBst.con {D : va_G} {h0 h : AH} {b nn : Nat} (S : SBst h0 h b nn) (i : Nat) (hi : i < 5) : SBss D h0 h b nn (D.2 50 i) (scL.getD i 0) := by
  obtain ⟨v, mm, B, h1, h3, h4⟩ := S
  exact ⟨v, mm, B, h1, h3, h4, D.2 51 i, Or.inl ⟨i, hi, rfl, rfl, rfl⟩⟩
theorem SBst.new {D : va_G} {h0 h h2 : AH} {b nn n2 sa : Nat} (S : SBst h0 h b nn) (P : StrN h n2 (some (.ref sa)) h2) : SBss D h0 h2 b nn sa n2 := by
  obtain ⟨sa', va, e, p1, p2, p3, p4⟩ := P
  cases e
  obtain ⟨v, mm, B, h1, h3, h4⟩ := S
  have hv := B.tov
  obtain ⟨t, bs, b1, b2, b3⟩ := B
  exact ⟨v, mm, ⟨t, bs, p4 _ _ b1, p4 _ _ b2, b3⟩, h1, h3, h4.trans p4, va, Or.inr ⟨p1, fun z => hv (by rw [← z]; exact p3)⟩⟩
theorem SBQ.to {B0 : Nat} {h0 h h' : AH} {b v nn n2 mm m2 : Nat} (B : SBp h b v nn mm) (hb : h0 b = none) (hv : h0 v = none) (hE : Ext h0 h) (P : SBQ B0 h b v n2 m2 h') : SBst h0 h' b n2 := by
  obtain ⟨v1, B1, hv1, hk⟩ := P
  refine ⟨v1, m2, B1, hb, ?_, fun a c g => ?_⟩
  · rcases hv1 with w | w
    · rw [w]; exact hv
    · cases e : h0 v1 with
      | none => rfl
      | some c => have := hE _ _ e; rw [w.1] at this; cases this
  · exact hk a c (fun z => by rw [z, hb] at g; cases g) (fun z => by rw [z, hv] at g; cases g) (hE _ _ g)
theorem Ext.tyg {Γ : TY} {h h' : AH} (E : Ext h h') (I : Tyg Γ h) : Tyg Γ h' := fun a φ g => by
  obtain ⟨c, h1, h2⟩ := I a φ g
  exact ⟨c, E _ _ h1, h2⟩
theorem Ext.ti {Γ : TY} {h h' : AH} (E : Ext h h') (I : Tyg Γ h) : TI Γ h h' := ⟨E.tyg I, fun a c g _ => E a c g⟩
section UB
variable {p : Program} {la : Launch} {e : Env} {R : Room} {s : State} {m : MethodId} {args : Array Value} {below : List Frame} {meth : Method} {c : Code} {Q : State → Prop}
variable {D : va_G} {cA : Nat → ClassId} {B0 pa nL : Nat} {cc : ByteArray} {own : String} {pc k n : Nat} {l : List (Nat × Value)} {r : List Value} {h h0 : AH}
/-- a constant text, wide -/
theorem ldcwT_ok (X : CX p s m args c D cA B0 nL cc own) (E : EN D cA B0 pa s) (i : Nat) {idx : Nat} (hi : i < 5) (ho : own = scO i) (hx : idx = scK i) (hd : decode cc pc = .ok (.ldc_w idx, 3))
    (kk : WS p la e R s m args below meth c Q D cA B0 nL (pc + 3) l (.ref (D.2 50 i) :: r) h k n) : WS p la e R s m args below meth c Q D cA B0 nL pc l r h k n := by
  subst ho
  subst hx
  intro H locs ls hH hls
  intro T hT Y
  obtain ⟨t, a1, b1⟩ := kk H locs ls hH hls T hT Y
  have hZ := E.2.2.2.1.2.2.2.2.2.2.1 i hi
  exact ⟨t, Y.ldcStringW X.1 X.2.2.2.1 (text := scT i) (a := D.2 50 i) hZ.1 hZ.2 (g := F0 m pc ls r) rfl (by rw [X.2.1]; exact hd) t a1, b1⟩
theorem newSB_ok (X : CX p s m args c D cA B0 nL cc own) (E : EN D cA B0 pa s) {i1 i2 : Nat} (hN : NC own i1 1 [.null, .int 0, .int 0, .int 0]) (hl : Cond.methodLink own i2 yJ4_init_da8c8 ∈ WT) (d0 : decode cc pc = .ok (.new i1, 3)) (d3 : decode cc (pc + 3) = .ok (.dup, 1)) (d4 : decode cc (pc + 4) = .ok (.invokespecial i2, 3))
    (hR : 3 ≤ R.frames ∧ 8 + (1 + 11) + 40 * 2 ≤ R.locals) (hf : k + 2 ≤ R.cells ∧ n + 20 ≤ R.slots) (hW : (r.map fun v => v.category).sum ≤ 7)
    (kk : ∀ (b : Nat) (h1 : AH), SBst h h1 b 0 → WS p la e R s m args below meth c Q D cA B0 nL (pc + 7) l (.ref b :: r) h1 (k + 2) (n + 20)) : WS p la e R s m args below meth c Q D cA B0 nL pc l r h k n := by
  refine new_ok X hN d0 (by omega) (by show n + 4 ≤ _; omega) (fun q hq hBq => ?_)
  refine fst1_ok X d3 rfl ?_
  refine callI_ok (av := []) (r := .ref q :: r) X E (t_sb _ (hup_self _ _ _)) lkJ4_init_da8c8 hl lmJ4_init_da8c8 rfl hR ⟨by show k + 1 + 1 ≤ _; omega, by show n + 4 + 16 ≤ _; omega⟩ (by show 1 + (r.map fun v => v.category).sum ≤ 8; omega) d4 ?_
  rintro _ h1 ⟨rfl, v, B, hv, hk⟩
  refine WS.widen (k' := k + 2) (n' := n + 20) (by show k + 1 + 1 ≤ k + 2; omega) (by show n + 4 + 16 ≤ n + 20; omega) (kk q h1 ⟨v, 16, B, hq, ?_, fun a c g => ?_⟩)
  · by_cases z : v = q
    · rw [z, hup_self] at hv; cases hv
    · rw [hup_ne _ _ z] at hv; exact hv
  · have z : a ≠ q := fun z => by rw [z, hq] at g; cases g
    exact hk a c z (by rw [hup_ne _ _ z]; exact g)
theorem appC_ok (X : CX p s m args c D cA B0 nL cc own) (E : EN D cA B0 pa s) {idx b nn c0 N : Nat} (S : SBst h0 h b nn) (hc : c0 < 256) (hn : nn + 1 ≤ N) (hN : N ≤ 400) (hl : Cond.methodLink own idx yJ4_append_cf468 ∈ WT)
    (hR : 6 ≤ R.frames ∧ 8 + (2 + 11) + 40 * 5 ≤ R.locals) (hf : k + 1 ≤ R.cells ∧ n + 2 * N ≤ R.slots) (hW : (r.map fun v => v.category).sum ≤ 8) (hd : decode cc pc = .ok (.invokevirtual idx, 3))
    (kk : ∀ h' : AH, SBst h0 h' b (nn + 1) → WS p la e R s m args below meth c Q D cA B0 nL (pc + 3) l (.ref b :: r) h' (k + 1) (n + 2 * N)) : WS p la e R s m args below meth c Q D cA B0 nL pc l (vI c0 :: .ref b :: r) h k n := by
  obtain ⟨v, mm, B, hb0, hv0, hE⟩ := S
  obtain ⟨t, bs, hb, -⟩ := id B
  refine callV_ok (ci := 1) (T := TJ4) (N := 4) (av := [vI c0]) X E (t_sapp h B hc hn hN) lkJ4_append_cf468 hl lmJ4_append_cf468 lvJ4_append_cf468 hR hf rfl hb hW hd ?_
  rintro _ h1 ⟨rfl, m1, P1⟩
  exact kk h1 (P1.to B hb0 hv0 hE)
theorem appS_ok (X : CX p s m args c D cA B0 nL cc own) (E : EN D cA B0 pa s) {idx b nn sa n2 N : Nat} (S : SBss D h0 h b nn sa n2) (hn : nn + n2 ≤ N) (hN : N ≤ 400) (hl : Cond.methodLink own idx yJ4_append_15ec4 ∈ WT)
    (hR : 6 ≤ R.frames ∧ 8 + (2 + 11) + 40 * 5 ≤ R.locals) (hf : k + 1 ≤ R.cells ∧ n + 2 * N ≤ R.slots) (hW : (r.map fun v => v.category).sum ≤ 8) (hd : decode cc pc = .ok (.invokevirtual idx, 3))
    (kk : ∀ h' : AH, SBst h0 h' b (nn + n2) → WS p la e R s m args below meth c Q D cA B0 nL (pc + 3) l (.ref b :: r) h' (k + 1) (n + 2 * N)) : WS p la e R s m args below meth c Q D cA B0 nL pc l (.ref sa :: .ref b :: r) h k n := by
  obtain ⟨v, mm, B, hb0, hv0, hE, T⟩ := S
  obtain ⟨t, bs, hb, -⟩ := id B
  refine callV_ok (ci := 1) (T := TJ4) (N := 4) (av := [.ref sa]) X E (t_sapps h B T hn hN) lkJ4_append_15ec4 hl lmJ4_append_15ec4 lvJ4_append_15ec4 hR hf rfl hb hW hd ?_
  rintro _ h1 ⟨rfl, m1, P1⟩
  exact kk h1 (P1.to B hb0 hv0 hE)
theorem toS_ok (X : CX p s m args c D cA B0 nL cc own) (E : EN D cA B0 pa s) {idx b nn : Nat} (S : SBst h0 h b nn) (hl : Cond.methodLink own idx yJ4_toString_0e30d ∈ WT)
    (hR : 6 ≤ R.frames ∧ 8 + (1 + 11) + 40 * 5 ≤ R.locals) (hf : k + 2 ≤ R.cells ∧ n + (4 + nn) ≤ R.slots) (hW : (r.map fun v => v.category).sum ≤ 8) (hd : decode cc pc = .ok (.invokevirtual idx, 3))
    (kk : ∀ (sa : Nat) (h' : AH), StrN h0 nn (some (.ref sa)) h' → WS p la e R s m args below meth c Q D cA B0 nL (pc + 3) l (.ref sa :: r) h' (k + 2) (n + (4 + nn))) : WS p la e R s m args below meth c Q D cA B0 nL pc l (.ref b :: r) h k n := by
  obtain ⟨v, mm, B, hb0, hv0, hE⟩ := S
  obtain ⟨t, bs, hb, -⟩ := id B
  refine callV_ok (ci := 1) (T := TJ4) (N := 4) (av := []) X E (t_toS h B) lkJ4_toString_0e30d hl lmJ4_toString_0e30d lvJ4_toString_0e30d hR hf rfl hb hW hd ?_
  rintro _ h1 ⟨sa, va, rfl, p1, p2, p3, p4⟩
  have nw : ∀ q : Nat, h q = none → h0 q = none := fun q hq => by
    cases e : h0 q with
    | none => rfl
    | some c => have := hE _ _ e; rw [hq] at this; cases this
  exact kk sa h1 ⟨sa, va, rfl, p1, nw _ p2, nw _ p3, hE.trans p4⟩
end UB
section M98i
variable {la : Launch} {D : va_G} {cA : Nat → ClassId} {B0 pa : Nat}
set_option maxHeartbeats 16000000 in
theorem c_textOf {a : Nat} {xs : List Nat} (hn : xs.length ≤ 16) (hx : ∀ x ∈ xs, okL x) : ∀ (f at' kk : Nat), endL 1 (xs.drop at') = some kk → kk ≤ f → ∀ h : AH, h a = some (IA xs) → CT la D cA B0 pa yX10_textOf cX10_textOf 6 (some (.object "java/lang/String")) (rmD (7 + f) (8 * kk - 2) (600 * kk - 256)) [.ref a, vI at'] h (fun v h' => ∃ nn, nn + 1 ≤ 4 * kk ∧ StrN h nn v h') := by
  intro f
  induction f with
  | zero => intro at' kk hk hkf; have := endL_pos (n := 0) hk; omega
  | succ f ihf =>
    intro at' kk hk hkf h ha
    refine CT_of (by decide +kernel) (Nat.le_of_ble_eq_true rfl) ?_
    intro p e s m args below meth c X E hr hlk hnm
    have dk : ∀ {pc : Nat} {q : Instr × Nat}, lkd DX10_textOf pc = some q → decode cX10_textOf pc = .ok q := lkd_ok DX10_textOf_ok
    have hat : at' < xs.length := by
      rcases Nat.lt_or_ge at' xs.length with q | q
      · exact q
      · rw [List.drop_eq_nil_of_le q] at hk; simp [endL] at hk
    obtain ⟨x, hx1⟩ : ∃ x, xs[at']? = some x := ⟨xs[at']'hat, by simp⟩
    have hx2 := (hx x (List.mem_of_getElem? hx1)).lt
    have hlt : ∀ x ∈ xs, x < 2 ^ 10 := fun x h => by have := (hx x h).lt; omega
    have hk' := hk
    rw [drop_cons hx1] at hk'
    simp only [endL, Option.map_eq_some_iff, Nat.zero_add] at hk'
    obtain ⟨k0, hk0, rfl⟩ := hk'
    have hle := endL_le hk
    rw [List.length_drop] at hle
    have hpF : pF x ≤ 3 := by unfold pF; split <;> omega
    iterate 2 refine fst1_ok X (dk rfl) rfl ?_
    refine ald_ok X (Or.inl ⟨rfl, rfl⟩) (dk rfl) ha (inA_nI (by omega) (IA_get hx1)) ?_
    iterate 3 refine fst1_ok X (dk rfl) rfl ?_
    refine br_ok X (dk rfl) rfl (show ((7 : Nat) : Int) + 27 = ((34 : Nat) : Int) from rfl) (fun c1 => ?_) (fun c2 => ?_)
    · rw [nI_10] at c1
      have hx10 : 10 ≤ x := (nI_leI (by omega) (by omega)).mp c1
      refine newSB_ok X E ncX10_173 mlX10_175 (dk rfl) (dk rfl) (dk rfl) ⟨by show 3 ≤ 7 + (f + 1); omega, by show 8 + (1 + 11) + 40 * 2 ≤ 40 * (7 + (f + 1)); omega⟩ ⟨by show 0 + 2 ≤ 8 * (k0 + 1) - 2; omega, by show 0 + 20 ≤ 600 * (k0 + 1) - 256; omega⟩ (Nat.le_of_ble_eq_true rfl) (fun b h1 S1 => ?_)
      have loop : ∀ (nd pl jj j nn : Nat) (hc : AH), endL nd (xs.drop pl) = some jj → pl + jj = at' + (k0 + 1) → at' < pl → j + nd = pF x → nn ≤ 1 + 4 * (pl - at' - 1) → SBst h hc b nn → ∀ (l : List (Nat × Value)), lsel l [5, 4, 3, 2, 0, 1] = [(5, vI j), (4, vI pl), (3, .ref b), (2, vI x), (0, .ref a), (1, vI at')] → WR p la e (rmD (7 + (f + 1)) (8 * (k0 + 1) - 2) (600 * (k0 + 1) - 256)) s m args below meth c D cA B0 6 (fun v h' => ∃ nn, nn + 1 ≤ 4 * (k0 + 1) ∧ StrN h nn v h') 98 l [] hc (3 + 8 * (pl - at' - 1)) (148 + 600 * (pl - at' - 1)) := by
        intro nd
        induction nd with
        | zero =>
          intro pl jj j nn hc hj hpj hpl hjn hnn S l hl
          simp only [endL, Option.some.injEq] at hj
          subst hj
          have hjx : j = pF x := by omega
          subst hjx
          refine WS.sel [5, 4, 3, 2, 0, 1] hl ?_
          iterate 2 refine fst1_ok X (dk rfl) rfl ?_
          refine callS_ok (av := [vI x]) (r := [vI (pF x)]) X E (c_parts hc (by omega)) lkX10_parts mlX10_32 lsX10_parts ⟨by show 0 + 1 ≤ 7 + (f + 1); omega, by show 8 + (1 + 11) + 40 * 0 ≤ 40 * (7 + (f + 1)); omega⟩ ⟨by show _ + 0 ≤ 8 * (k0 + 1) - 2; omega, by show _ + 0 ≤ 600 * (k0 + 1) - 256; omega⟩ (Nat.le_of_ble_eq_true rfl) (dk rfl) ?_
          rintro v h2 ⟨rfl, rfl⟩
          refine br_ok X (dk rfl) rfl (show ((104 : Nat) : Int) + 43 = ((147 : Nat) : Int) from rfl) (fun _ => ?_) (fun q => absurd (Int32.le_refl _) q)
          have fin : ∀ i : Nat, (i = 3 ∨ i = 0) → ∀ (l : List (Nat × Value)), WR p la e (rmD (7 + (f + 1)) (8 * (k0 + 1) - 2) (600 * (k0 + 1) - 256)) s m args below meth c D cA B0 6 (fun v h' => ∃ nn, nn + 1 ≤ 4 * (k0 + 1) ∧ StrN h nn v h') 162 l [.ref (D.2 50 i), .ref b] h2 (3 + 8 * (pl - at' - 1)) (148 + 600 * (pl - at' - 1)) := by
            intro i hi l
            have hi5 : i < 5 := by omega
            have hs1 : scL.getD i 0 ≤ 1 := by rcases hi with rfl | rfl <;> decide
            refine appS_ok (N := 64) X E (S.con i hi5) (by omega) (by omega) mlX10_178 ⟨by show 6 ≤ 7 + (f + 1); omega, by show 8 + (2 + 11) + 40 * 5 ≤ 40 * (7 + (f + 1)); omega⟩ ⟨by show _ + 1 ≤ 8 * (k0 + 1) - 2; omega, by show _ + 2 * 64 ≤ 600 * (k0 + 1) - 256; omega⟩ (Nat.le_of_ble_eq_true rfl) (dk rfl) (fun h3 S3 => ?_)
            refine toS_ok X E S3 mlX10_185 ⟨by show 6 ≤ 7 + (f + 1); omega, by show 8 + (1 + 11) + 40 * 5 ≤ 40 * (7 + (f + 1)); omega⟩ ⟨by show _ + 1 + 2 ≤ 8 * (k0 + 1) - 2; omega, by show _ + 2 * 64 + (4 + (nn + scL.getD i 0)) ≤ 600 * (k0 + 1) - 256; omega⟩ (Nat.le_of_ble_eq_true rfl) (dk rfl) (fun sa h4 S4 => ?_)
            exact reta_ok X hr hlk (Or.inl ⟨_, rfl⟩) (Or.inr ⟨_, rfl⟩) (dk rfl) ⟨_, by omega, S4⟩ (by show _ + 1 + 2 ≤ 8 * (k0 + 1) - 2; omega) (by show _ + 2 * 64 + (4 + (nn + scL.getD i 0)) ≤ 600 * (k0 + 1) - 256; omega)
          iterate 2 refine fst1_ok X (dk rfl) rfl ?_
          refine callS_ok (av := [vI x]) (r := [.ref b]) X E (c_parts h2 (by omega)) lkX10_parts mlX10_32 lsX10_parts ⟨by show 0 + 1 ≤ 7 + (f + 1); omega, by show 8 + (1 + 11) + 40 * 0 ≤ 40 * (7 + (f + 1)); omega⟩ ⟨by show _ + 0 + 0 ≤ 8 * (k0 + 1) - 2; omega, by show _ + 0 + 0 ≤ 600 * (k0 + 1) - 256; omega⟩ (Nat.le_of_ble_eq_true rfl) (dk rfl) ?_
          rintro v h3 ⟨rfl, rfl⟩
          refine br_ok X (dk rfl) rfl (show ((152 : Nat) : Int) + 8 = ((160 : Nat) : Int) from rfl) (fun c3 => ?_) (fun c3 => ?_)
          · refine ldcT_ok X E 0 (by decide) rfl rfl (dk rfl) ?_
            exact fin 0 (Or.inr rfl) _
          · refine ldcT_ok X E 3 (by decide) rfl rfl (dk rfl) ?_
            refine br_ok X (dk rfl) rfl (show ((157 : Nat) : Int) + 5 = ((162 : Nat) : Int) from rfl) (fun _ => ?_) (fun q => absurd trivial q)
            exact fin 3 (Or.inl rfl) _
        | succ nd ih =>
          intro pl jj j nn hc hj hpj hpl hjn hnn S l hl
          rw [show nd + 1 = 1 + nd by omega] at hj
          obtain ⟨k1, hk1, hk1j, hk2⟩ := endL_add _ 1 nd jj hj
          rw [List.drop_drop] at hk2
          have hk1p := endL_pos (n := 0) hk1
          have hple := endL_le hk1
          rw [List.length_drop] at hple
          have hplt : pl < xs.length := by
            rcases Nat.lt_or_ge pl xs.length with q | q
            · exact q
            · omega
          have hca := S.base _ _ ha
          refine WS.sel [5, 4, 3, 2, 0, 1] hl ?_
          iterate 2 refine fst1_ok X (dk rfl) rfl ?_
          refine callS_ok (av := [vI x]) (r := [vI j]) X E (c_parts hc (by omega)) lkX10_parts mlX10_32 lsX10_parts ⟨by show 0 + 1 ≤ 7 + (f + 1); omega, by show 8 + (1 + 11) + 40 * 0 ≤ 40 * (7 + (f + 1)); omega⟩ ⟨by show _ + 0 ≤ 8 * (k0 + 1) - 2; omega, by show _ + 0 ≤ 600 * (k0 + 1) - 256; omega⟩ (Nat.le_of_ble_eq_true rfl) (dk rfl) ?_
          rintro v hc ⟨rfl, rfl⟩
          refine br_ok X (dk rfl) rfl (show ((104 : Nat) : Int) + 43 = ((147 : Nat) : Int) from rfl) (fun q => absurd q (nI_ge (by omega) (by omega))) (fun _ => ?_)
          iterate 2 refine fst1_ok X (dk rfl) rfl ?_
          have at120 : ∀ i : Nat, (i = 1 ∨ i = 2) → ∀ (l : List (Nat × Value)), lsel l [5, 4, 3, 2, 0, 1] = [(5, vI j), (4, vI pl), (3, .ref b), (2, vI x), (0, .ref a), (1, vI at')] → WR p la e (rmD (7 + (f + 1)) (8 * (k0 + 1) - 2) (600 * (k0 + 1) - 256)) s m args below meth c D cA B0 6 (fun v h' => ∃ nn, nn + 1 ≤ 4 * (k0 + 1) ∧ StrN h nn v h') 120 l [.ref (D.2 50 i), .ref b] hc (3 + 8 * (pl - at' - 1)) (148 + 600 * (pl - at' - 1)) := by
            intro i hi l hl
            have hi5 : i < 5 := by omega
            have hs1 : scL.getD i 0 = 1 := by rcases hi with rfl | rfl <;> rfl
            refine WS.sel [5, 4, 3, 2, 0, 1] hl ?_
            refine appS_ok (N := 64) X E (S.con i hi5) (by omega) (by omega) mlX10_178 ⟨by show 6 ≤ 7 + (f + 1); omega, by show 8 + (2 + 11) + 40 * 5 ≤ 40 * (7 + (f + 1)); omega⟩ ⟨by show _ + 1 ≤ 8 * (k0 + 1) - 2; omega, by show _ + 2 * 64 ≤ 600 * (k0 + 1) - 256; omega⟩ (Nat.le_of_ble_eq_true rfl) (dk rfl) (fun h3 S3 => ?_)
            iterate 2 refine fst1_ok X (dk rfl) rfl ?_
            refine callS_ok (av := [.ref a, vI pl]) (r := [.ref b]) X E (ihf pl k1 hk1 (by omega) h3 (S3.base _ _ ha)) lkX10_textOf mlX10_193 lsX10_textOf ⟨by show 7 + f + 1 ≤ 7 + (f + 1); omega, by show 8 + (6 + 11) + 40 * (7 + f) ≤ 40 * (7 + (f + 1)); omega⟩ ⟨by show _ + 1 + (8 * k1 - 2) ≤ 8 * (k0 + 1) - 2; omega, by show _ + 2 * 64 + (600 * k1 - 256) ≤ 600 * (k0 + 1) - 256; omega⟩ (Nat.le_of_ble_eq_true rfl) (dk rfl) ?_
            rintro v h4 ⟨n4, hn4, P4⟩
            obtain ⟨sa, va, rfl, -⟩ := id P4
            refine appS_ok (N := 64) X E (S3.new P4) (by omega) (by omega) mlX10_178 ⟨by show 6 ≤ 7 + (f + 1); omega, by show 8 + (2 + 11) + 40 * 5 ≤ 40 * (7 + (f + 1)); omega⟩ ⟨by show _ + 1 + (8 * k1 - 2) + 1 ≤ 8 * (k0 + 1) - 2; omega, by show _ + 2 * 64 + (600 * k1 - 256) + 2 * 64 ≤ 600 * (k0 + 1) - 256; omega⟩ (Nat.le_of_ble_eq_true rfl) (dk rfl) (fun h5 S5 => ?_)
            iterate 3 refine fst1_ok X (dk rfl) rfl ?_
            refine callS_ok (av := [.ref a, vI pl]) (r := []) X E (c_end h5 (S5.base _ _ ha) hlt (by omega) hk1) lkX10_end mlX10_36 lsX10_end ⟨by show 1 + 1 ≤ 7 + (f + 1); omega, by show 8 + (4 + 11) + 40 * 1 ≤ 40 * (7 + (f + 1)); omega⟩ ⟨by show _ + 1 + (8 * k1 - 2) + 1 + 0 ≤ 8 * (k0 + 1) - 2; omega, by show _ + 2 * 64 + (600 * k1 - 256) + 2 * 64 + 0 ≤ 600 * (k0 + 1) - 256; omega⟩ (Nat.le_of_ble_eq_true rfl) (dk rfl) ?_
            rintro v h6 ⟨rfl, rfl⟩
            iterate 2 refine fst1_ok X (dk rfl) rfl ?_
            refine br_ok X (dk rfl) rfl (show ((144 : Nat) : Int) + (-46) = ((98 : Nat) : Int) from rfl) (fun _ => ?_) (fun q => absurd trivial q)
            have f2 : Value.int (nI j + Int32.ofInt 1) = vI (j + 1) := congrArg Value.int (by rw [nI_1', nI_add])
            refine WS.sel (l' := [(5, vI (j + 1)), (4, vI (pl + k1)), (3, .ref b), (2, vI x), (0, .ref a), (1, vI at')]) [5, 4, 3, 2, 0, 1] (by rw [← f2]; rfl) ?_
            refine WS.widen (k' := 3 + 8 * (pl + k1 - at' - 1)) (n' := 148 + 600 * (pl + k1 - at' - 1)) (by show _ + 1 + (8 * k1 - 2) + 1 + 0 ≤ _; omega) (by show _ + 2 * 64 + (600 * k1 - 256) + 2 * 64 + 0 ≤ _; omega) ?_
            exact ih (pl + k1) (jj - k1) (j + 1) _ h6 hk2 (by omega) (by omega) (by omega) (by omega) S5 _ rfl
          refine br_ok X (dk rfl) rfl (show ((110 : Nat) : Int) + 8 = ((118 : Nat) : Int) from rfl) (fun c3 => ?_) (fun c3 => ?_)
          · refine ldcT_ok X E 2 (by decide) rfl rfl (dk rfl) ?_
            exact at120 2 (Or.inr rfl) _ rfl
          · refine ldcT_ok X E 1 (by decide) rfl rfl (dk rfl) ?_
            refine br_ok X (dk rfl) rfl (show ((115 : Nat) : Int) + 5 = ((120 : Nat) : Int) from rfl) (fun _ => ?_) (fun q => absurd trivial q)
            exact at120 1 (Or.inl rfl) _ rfl
      have at85 : ∀ c0 : Nat, c0 < 256 → ∀ (l : List (Nat × Value)), lsel l [2, 0, 1] = [(2, vI x), (0, .ref a), (1, vI at')] → WR p la e (rmD (7 + (f + 1)) (8 * (k0 + 1) - 2) (600 * (k0 + 1) - 256)) s m args below meth c D cA B0 6 (fun v h' => ∃ nn, nn + 1 ≤ 4 * (k0 + 1) ∧ StrN h nn v h') 85 l [vI c0, .ref b] h1 2 20 := by
        intro c0 hc0 l hl
        refine WS.sel [2, 0, 1] hl ?_
        refine fst1_ok X (dk rfl) rfl ?_
        have e0 : Value.int ((nI c0).toUInt32 % 65536).toInt32 = vI c0 := congrArg Value.int (i2cN hc0)
        rw [e0]
        refine appC_ok (N := 64) X E S1 hc0 (by omega) (by omega) mlX10_182 ⟨by show 6 ≤ 7 + (f + 1); omega, by show 8 + (2 + 11) + 40 * 5 ≤ 40 * (7 + (f + 1)); omega⟩ ⟨by show 2 + 1 ≤ 8 * (k0 + 1) - 2; omega, by show 20 + 2 * 64 ≤ 600 * (k0 + 1) - 256; omega⟩ (Nat.le_of_ble_eq_true rfl) (dk rfl) (fun h2 S2 => ?_)
        iterate 7 refine fst1_ok X (dk rfl) rfl ?_
        have e1 : Value.int (nI at' + Int32.ofInt 1) = vI (at' + 1) := congrArg Value.int (by rw [nI_1', nI_add])
        refine WS.sel (l' := [(5, vI 0), (4, vI (at' + 1)), (3, .ref b), (2, vI x), (0, .ref a), (1, vI at')]) [5, 4, 3, 2, 0, 1] (by rw [← e1]; rfl) ?_
        have hh := loop (pF x) (at' + 1) k0 0 1 h2 hk0 (by omega) (by omega) (by omega) (by omega) S2
        have z : at' + 1 - at' - 1 = 0 := by omega
        rw [z] at hh
        exact hh _ rfl
      iterate 2 refine fst1_ok X (dk rfl) rfl ?_
      refine br_ok X (dk rfl) rfl (show ((44 : Nat) : Int) + 31 = ((75 : Nat) : Int) from rfl) (fun c3 => ?_) (fun c3 => ?_)
      · iterate 7 refine fst1_ok X (dk rfl) rfl ?_
        have e0 : Value.int ((Int8.ofInt 83).toInt32 + nI x - (Int8.ofInt 10).toInt32 - (Int8.ofInt 6).toInt32) = vI (83 + x - 10 - 6) := congrArg Value.int (by rw [show (Int8.ofInt 83).toInt32 = nI 83 by decide +kernel, nI_10, show (Int8.ofInt 6).toInt32 = nI 6 by decide +kernel, nI_add, nI_sub (by omega), nI_sub (by omega)])
        rw [e0]
        exact at85 _ (by omega) _ rfl
      · iterate 2 refine fst1_ok X (dk rfl) rfl ?_
        refine br_ok X (dk rfl) rfl (show ((50 : Nat) : Int) + 13 = ((63 : Nat) : Int) from rfl) (fun c4 => ?_) (fun c4 => ?_)
        · iterate 7 refine fst1_ok X (dk rfl) rfl ?_
          have e0 : Value.int ((Int8.ofInt 80).toInt32 + nI x - (Int8.ofInt 10).toInt32 - Int32.ofInt 4) = vI (80 + x - 10 - 4) := congrArg Value.int (by rw [show (Int8.ofInt 80).toInt32 = nI 80 by decide +kernel, nI_10, show Int32.ofInt 4 = nI 4 by decide +kernel, nI_add, nI_sub (by omega), nI_sub (by omega)])
          rw [e0]
          refine br_ok X (dk rfl) rfl (show ((72 : Nat) : Int) + 13 = ((85 : Nat) : Int) from rfl) (fun _ => ?_) (fun q => absurd trivial q)
          exact at85 _ (by omega) _ rfl
        · iterate 5 refine fst1_ok X (dk rfl) rfl ?_
          have e0 : Value.int ((Int8.ofInt 75).toInt32 + nI x - (Int8.ofInt 10).toInt32) = vI (75 + x - 10) := congrArg Value.int (by rw [show (Int8.ofInt 75).toInt32 = nI 75 by decide +kernel, nI_10, nI_add, nI_sub (by omega)])
          rw [e0]
          refine br_ok X (dk rfl) rfl (show ((60 : Nat) : Int) + 25 = ((85 : Nat) : Int) from rfl) (fun _ => ?_) (fun q => absurd trivial q)
          exact at85 _ (by omega) _ rfl
    · refine newSB_ok X E ncX10_173 mlX10_175 (dk rfl) (dk rfl) (dk rfl) ⟨by show 3 ≤ 7 + (f + 1); omega, by show 8 + (1 + 11) + 40 * 2 ≤ 40 * (7 + (f + 1)); omega⟩ ⟨by show 0 + 2 ≤ 8 * (k0 + 1) - 2; omega, by show 0 + 20 ≤ 600 * (k0 + 1) - 256; omega⟩ (Nat.le_of_ble_eq_true rfl) (fun b h1 S1 => ?_)
      refine ldcT_ok X E 0 (by decide) rfl rfl (dk rfl) ?_
      refine appS_ok (N := 64) X E (S1.con 0 (by decide)) (by decide) (by omega) mlX10_178 ⟨by show 6 ≤ 7 + (f + 1); omega, by show 8 + (2 + 11) + 40 * 5 ≤ 40 * (7 + (f + 1)); omega⟩ ⟨by show 0 + 2 + 1 ≤ 8 * (k0 + 1) - 2; omega, by show 0 + 20 + 2 * 64 ≤ 600 * (k0 + 1) - 256; omega⟩ (Nat.le_of_ble_eq_true rfl) (dk rfl) (fun h2 S2 => ?_)
      have S2 : SBst h h2 b 0 := S2
      iterate 4 refine fst1_ok X (dk rfl) rfl ?_
      have e0 : Value.int (((Int8.ofInt 97).toInt32 + nI x).toUInt32 % 65536).toInt32 = vI (97 + x) := congrArg Value.int (by rw [show (Int8.ofInt 97).toInt32 = nI 97 by decide +kernel, nI_add]; exact i2cN (by omega))
      rw [e0]
      refine appC_ok (N := 64) X E S2 (by omega) (by omega) (by omega) mlX10_182 ⟨by show 6 ≤ 7 + (f + 1); omega, by show 8 + (2 + 11) + 40 * 5 ≤ 40 * (7 + (f + 1)); omega⟩ ⟨by show 0 + 2 + 1 + 1 ≤ 8 * (k0 + 1) - 2; omega, by show 0 + 20 + 2 * 64 + 2 * 64 ≤ 600 * (k0 + 1) - 256; omega⟩ (Nat.le_of_ble_eq_true rfl) (dk rfl) (fun h3 S3 => ?_)
      refine toS_ok X E S3 mlX10_185 ⟨by show 6 ≤ 7 + (f + 1); omega, by show 8 + (1 + 11) + 40 * 5 ≤ 40 * (7 + (f + 1)); omega⟩ ⟨by show 0 + 2 + 1 + 1 + 2 ≤ 8 * (k0 + 1) - 2; omega, by show 0 + 20 + 2 * 64 + 2 * 64 + (4 + (0 + 1)) ≤ 600 * (k0 + 1) - 256; omega⟩ (Nat.le_of_ble_eq_true rfl) (dk rfl) (fun sa h4 S4 => ?_)
      exact reta_ok X hr hlk (Or.inl ⟨_, rfl⟩) (Or.inr ⟨_, rfl⟩) (dk rfl) ⟨_, by omega, S4⟩ (by show 0 + 2 + 1 + 1 + 2 ≤ 8 * (k0 + 1) - 2; omega) (by show 0 + 20 + 2 * 64 + 2 * 64 + (4 + (0 + 1)) ≤ 600 * (k0 + 1) - 256; omega)
end M98i
section M98j
variable {la : Launch} {D : va_G} {cA : Nat → ClassId} {B0 pa : Nat} {o S A : Nat} {sl : List (List Nat)} {an : List (List (List Nat))} {a r kn th : Int32}
end M98j
