section U98htx3
/-! texts: weak contracts of the builder and of strings (printed by wip/p40/genTy.py) -/
/-- a text whose row is not the row v -/
def StrS (D : va_G) (h : AH) (sa v n : Nat) : Prop := ∃ va, StrC D sa va n ∨ (StrH h sa va n ∧ va ≠ v)
theorem StrS.to {D : va_G} {h : AH} {sa v n : Nat} (S : StrS D h sa v n) : StrA D h sa n := by
  obtain ⟨va, S | S⟩ := S
  · exact ⟨va, Or.inl S⟩
  · exact ⟨va, Or.inr S.1⟩
theorem StrS.kept {D : va_G} {h h1 : AH} {sa b v n m nn : Nat} (S : StrS D h sa v nn) (B : SBp h b v n m) {B0 : Nat} (hk : SBG B0 h h1 b v) : StrA D h1 sa nn := by
  obtain ⟨t, bs, hb, hv, -⟩ := B
  obtain ⟨va, S | ⟨⟨x, y, ts, h2, h3, h4⟩, hne⟩⟩ := S
  · exact ⟨va, Or.inl S⟩
  · exact ⟨va, Or.inr ⟨x, y, ts, hk _ _ (fun z => by rw [z, hb] at h2; cases h2) (fun z => by rw [z, hv] at h2; cases h2) h2, hk _ _ (fun z => by rw [z, hb] at h3; cases h3) hne h3, h4⟩⟩
/-- a new text -/
def StrN (h : AH) (n : Nat) (r : Option Value) (h' : AH) : Prop := ∃ sa va, r = some (.ref sa) ∧ StrH h' sa va n ∧ h sa = none ∧ h va = none ∧ ∀ (a : Nat) (c : AC), h a = some c → h' a = some c
section TX3
variable {p : Program} {la : Launch} {e : Env} {R : Room} {s : State} {m : MethodId} {args : Array Value} {below : List Frame} {meth : Method} {c : Code} {Q : State → Prop}
variable {D : va_G} {cA : Nat → ClassId} {B0 pa nL : Nat} {cc : ByteArray} {own : String} {pc k n : Nat} {l : List (Nat × Value)} {r : List Value} {h : AH}
theorem i2b_ok (X : CX p s m args c D cA B0 nL cc own) {x : Int32} (hd : decode cc pc = .ok (.i2b, 1))
    (kk : ∀ y : Int32, WS p la e R s m args below meth c Q D cA B0 nL (pc + 1) l (.int y :: r) h k n) : WS p la e R s m args below meth c Q D cA B0 nL pc l (.int x :: r) h k n :=
  fun H locs ls hH hls => lv_i2b X.1 X.2.1 hd rfl (kk _ H locs ls hH hls)
/-- an overriding method -/
theorem callO_ok (X : CX p s m args c D cA B0 nL cc own) (E : EN D cA B0 pa s) {x y : MethodName} {C : String} {bytes b0 : ByteArray} {maxL m0 idx ci b : Nat} {ret r0 : Option FieldType} {rm : Room} {av fs : List Value} {T : u_T} {N : Nat} {post : Option Value → AH → Prop}
    (hM : CT la D cA B0 pa y bytes maxL ret rm (.ref b :: av) h post) (hL : LK y bytes maxL av.length ret) (hL0 : LK x b0 m0 av.length r0) (hl : Cond.methodLink own idx x ∈ WT) (hsm : Cond.sameMethod x.cls x.cls x.name x.desc ∈ WT) (hse : Cond.selects C x y ∈ WT) (hi0 : Cond.instanceMethod x ∈ WT) (hi : Cond.instanceMethod y ∈ WT) (hR : rm.frames + 1 ≤ R.frames ∧ 8 + (maxL + 11) + rm.locals ≤ R.locals) (hf : k + rm.cells ≤ R.cells ∧ n + rm.slots ≤ R.slots)
    (hc : vwCl[ci]? = some (C, T, N)) (hb : h b = some (ci, fs))
    (hW : (r.map fun v => v.category).sum ≤ 8) (hd : decode cc pc = .ok (.invokevirtual idx, 3))
    (kk : ∀ (v : Option Value) (h' : AH), post v h' → WS p la e R s m args below meth c Q D cA B0 nL (pc + 3) l (v.toList ++ r) h' (k + rm.cells) (n + rm.slots)) : WS p la e R s m args below meth c Q D cA B0 nL pc l (av.reverse ++ .ref b :: r) h k n := by
  have g : ∀ w, w ∈ WT → w ∈ WT ∧ ((w.onTables && w.keeps) = true ∨ ∃ ty, w = .arrayClass ty) := fun w h => ⟨h, good_of_word (WT_good _ h)⟩
  have hT : GoodIn WT (va_wsO own idx C x.cls x y (Cond.code y bytes maxL ret :: WT)) := by
    intro w hw
    simp only [va_wsO, List.mem_append, List.mem_cons, List.not_mem_nil, or_false] at hw
    rcases hw with (hw | hw | hw | hw | hw | hw) | hw | hw
    · subst hw; exact g _ hl
    · subst hw; exact g _ hsm
    · subst hw; exact g _ hi0
    · subst hw; exact g _ hse
    · subst hw; exact g _ hi
    · subst hw; exact g _ hL.2.1
    · subst hw; exact g _ hL.1
    · exact g _ hw
  refine run_ok (idx := idx) (As := (Value.ref b :: av).toArray) X.2.2.2.2.2.2 (fun H locs ls hH hls => va_runU (C := C) (owner := x.cls) (x := x) (fix_ok X) hM (va_cwO av.length X.2.2.2.2.1 hT rfl rfl rfl hL0.1 ⟨hL0.2.2.1.1, hL0.2.2.1.2, hL0.2.2.2⟩ hR) ⟨PC_blind, ?_, (preS_of X E hH (.ref b :: av)).2⟩ rfl rfl hls.1 rfl (lv_room hW) hd hf) kk
  obtain ⟨r1, g0, -, cell, g1, g2, g3, -⟩ := (hH.1 b _ hb).2.1 (vwCl_lt hc)
  exact ⟨cell, g1, by rw [g3]; rfl, by rw [g2]; exact (X.2.2.2.2.2.1.1.1 ci _ hc).2.1⟩
theorem nI_subLe {t m : Nat} (h : t ≤ m) (hm : m < 2 ^ 20) : nI t - nI m ≤ 0 := by
  rw [Int32.le_iff_toInt_le, Int32.toInt_sub]
  have h1 : (nI t).toInt = t := by rw [nn32 _ (nI_pos (by omega)), nI_clamp (by omega)]
  have h2 : (nI m).toInt = m := by rw [nn32 _ (nI_pos (by omega)), nI_clamp (by omega)]
  rw [h1, h2, show (0 : Int32).toInt = 0 from rfl]
  have : ((t : Int) - m).bmod (2 ^ 32) = (t : Int) - m := by
    apply Int.bmod_eq_of_le <;> omega
  omega
theorem nI_ltK {t : Nat} (ht : t < 2 ^ 20) : nI t < 2147483639 := by
  rw [show (2147483639 : Int32) = nI 2147483639 by decide]
  exact (nI_ltI (by omega) (by decide)).mpr (by omega)
theorem nI_ltM {t : Nat} (ht : t < 2 ^ 20) : nI t < 2147483647 := by
  rw [show (2147483647 : Int32) = nI 2147483647 by decide]
  exact (nI_ltI (by omega) (by decide)).mpr (by omega)
theorem nI_inj {a b : Nat} (ha : a < 2 ^ 31) (hb : b < 2 ^ 31) (e : nI a = nI b) : a = b := by
  have := congrArg Int32.toNatClampNeg e
  rwa [nI_clamp ha, nI_clamp hb] at this
theorem nI_self (x : Int32) : nI x.toUInt32.toNat = x := by
  show (⟨UInt32.ofNat x.toUInt32.toNat⟩ : Int32) = x
  rw [UInt32.ofNat_toNat]
theorem andc (x : Int32) : ∃ c0 : Nat, c0 < 256 ∧ x &&& (Int16.ofInt 255).toInt32 = nI c0 := by
  refine ⟨(x &&& (Int16.ofInt 255).toInt32).toUInt32.toNat, ?_, ?_⟩
  · have h1 : (x &&& (Int16.ofInt 255).toInt32).toUInt32 = x.toUInt32 &&& 255 := rfl
    rw [h1, UInt32.toNat_and]
    exact Nat.lt_of_le_of_lt Nat.and_le_right (by decide)
  · exact (nI_self _).symm
theorem i2cN {c0 : Nat} (h : c0 < 256) : ((nI c0).toUInt32 % 65536).toInt32 = nI c0 := by
  have h1 : (nI c0).toUInt32 = UInt32.ofNat c0 := rfl
  have h2 : (nI c0).toUInt32 % 65536 = UInt32.ofNat c0 := by
    rw [h1]
    apply UInt32.toNat.inj
    rw [UInt32.toNat_mod, UInt32.toNat_ofNat', show (65536 : UInt32).toNat = 65536 from rfl]
    omega
  rw [h2]
  rfl
theorem nchar {c0 : Nat} (h : c0 < 256) : narrow .char (.int (nI c0)) = .int (nI c0) := by
  show Value.int _ = _
  exact congrArg Value.int (i2cN h)
/-- a letter of a constant text -/
theorem lld_ok (X : CX p s m args c D cA B0 nL cc own) (E : EN D cA B0 pa s) {i : Nat} (hi : i < 5) {j : Nat} (hj : j < scL.getD i 0) (hd : decode cc pc = .ok (.baload, 1))
    (kk : ∀ x : Int32, WS p la e R s m args below meth c Q D cA B0 nL (pc + 1) l (.int x :: r) h k n) : WS p la e R s m args below meth c Q D cA B0 nL pc l (vI j :: .ref (D.2 51 i) :: r) h k n := by
  have hL := scL_le i hi
  intro H locs ls hH hls
  refine va_tb X.1 X.2.1 (E.2.2.2.1.2.2.2.2.2.2.2.1.1 i hi).2.2.2 hH.2 (i := nI j) ?_ rfl hd (kk _ H locs ls hH hls)
  rintro (q | q)
  · exact nI_pos (by omega) q
  · rw [nI_clamp (by omega)] at q
    omega
end TX3
section M98h
variable {la : Launch} {D : va_G} {cA : Nat → ClassId} {B0 pa : Nat}
theorem t_lat (h : AH) {b v n mm : Nat} (B : SBp h b v n mm) : CT la D cA B0 pa yJ5_isLatin1_aae02 cJ5_isLatin1_aae02 1 (some .boolean) (rmD 0 0 0) [.ref b] h (fun r h' => r = some (.int 1) ∧ h' = h) := by
  refine CT_of (by decide +kernel) (Nat.le_of_ble_eq_true rfl) ?_
  intro p e s m args below meth c X E hr hlk hnm
  have dk : ∀ {pc : Nat} {q : Instr × Nat}, lkd DJ5_isLatin1_aae02 pc = some q → decode cJ5_isLatin1_aae02 pc = .ok q := lkd_ok DJ5_isLatin1_aae02_ok
  obtain ⟨t0, bs, hb, hv, hl, hf, hnm2, hm⟩ := id B
  refine getsC_ok X E glJ5_18 (dk rfl) ?_
  refine br_ok X (dk rfl) rfl (show ((3 : Nat) : Int) + 14 = ((17 : Nat) : Int) from rfl) (fun q => absurd q (by decide)) (fun _ => ?_)
  refine fst1_ok X (dk rfl) rfl ?_
  refine getfI_ok X flJ5_22 (dk rfl) hb rfl ?_
  refine br_ok X (dk rfl) rfl (show ((10 : Nat) : Int) + 7 = ((17 : Nat) : Int) from rfl) (fun q => absurd rfl q) (fun _ => ?_)
  refine fst1_ok X (dk rfl) rfl ?_
  refine br_ok X (dk rfl) rfl (show ((14 : Nat) : Int) + 4 = ((18 : Nat) : Int) from rfl) (fun _ => ?_) (fun q => absurd trivial q)
  exact reti_ok X hr hlk rfl (dk rfl) ⟨rfl, rfl⟩ (Nat.le_of_ble_eq_true rfl) (Nat.le_of_ble_eq_true rfl)
theorem t_can (h : AH) {c0 : Nat} (hc : c0 < 256) : CT la D cA B0 pa yJ1_canEncode_fc78d cJ1_canEncode_fc78d 1 (some .boolean) (rmD 0 0 0) [vI c0] h (fun r h' => r = some (.int 1) ∧ h' = h) := by
  refine CT_of (by decide +kernel) (Nat.le_of_ble_eq_true rfl) ?_
  intro p e s m args below meth c X E hr hlk hnm
  have dk : ∀ {pc : Nat} {q : Instr × Nat}, lkd DJ1_canEncode_fc78d pc = some q → decode cJ1_canEncode_fc78d pc = .ok q := lkd_ok DJ1_canEncode_fc78d_ok
  iterate 2 refine fst1_ok X (dk rfl) rfl ?_
  refine br_ok X (dk rfl) rfl (show ((4 : Nat) : Int) + 7 = ((11 : Nat) : Int) from rfl) (fun q => absurd ((nI_ltI (by omega) (by omega)).mp (i255 ▸ q)) (by omega)) (fun _ => ?_)
  refine fst1_ok X (dk rfl) rfl ?_
  refine br_ok X (dk rfl) rfl (show ((8 : Nat) : Int) + 4 = ((12 : Nat) : Int) from rfl) (fun _ => ?_) (fun q => absurd trivial q)
  exact reti_ok X hr hlk rfl (dk rfl) ⟨rfl, rfl⟩ (Nat.le_of_ble_eq_true rfl) (Nat.le_of_ble_eq_true rfl)
theorem t_nlen (h : AH) {ol mn pf : Nat} (h1 : ol < 2 ^ 18) (h2 : mn < 2 ^ 18) (h3 : pf < 2 ^ 18) (h4 : 0 < mn) : CT la D cA B0 pa yJ8_newLength_cabcc cJ8_newLength_cabcc 4 (some .int) (rmD 1 0 0) [vI ol, vI mn, vI pf] h (fun r h' => r = some (vI (ol + max mn pf)) ∧ h' = h) := by
  refine CT_of (by decide +kernel) (Nat.le_of_ble_eq_true rfl) ?_
  intro p e s m args below meth c X E hr hlk hnm
  have dk : ∀ {pc : Nat} {q : Instr × Nat}, lkd DJ8_newLength_cabcc pc = some q → decode cJ8_newLength_cabcc pc = .ok q := lkd_ok DJ8_newLength_cabcc_ok
  iterate 3 refine fst1_ok X (dk rfl) rfl ?_
  refine mmax_ok X (x := mn) (y := pf) (by omega) (by omega) mlJ8_194 (dk rfl) (by decide) (Nat.le_of_ble_eq_true rfl) (Nat.le_of_ble_eq_true rfl) (Nat.le_of_ble_eq_true rfl) ?_
  refine fst1_ok X (dk rfl) rfl ?_
  rw [nI_add]
  have hL : ol + max mn pf < 2 ^ 20 := by omega
  iterate 3 refine fst1_ok X (dk rfl) rfl ?_
  refine br_ok X (dk rfl) rfl (show ((10 : Nat) : Int) + 11 = ((21 : Nat) : Int) from rfl) (fun q => absurd (nI_le0 (by omega) q) (by omega)) (fun _ => ?_)
  refine fst1_ok X (dk rfl) rfl ?_
  refine ldc_ok X csJ8_200 (dk rfl) ?_
  refine br_ok X (dk rfl) rfl (show ((16 : Nat) : Int) + 5 = ((21 : Nat) : Int) from rfl) (fun q => absurd q (Int32.not_lt.mpr (Int32.le_of_lt (nI_ltK hL)))) (fun _ => ?_)
  refine fst1_ok X (dk rfl) rfl ?_
  exact reti_ok X hr hlk rfl (dk rfl) ⟨rfl, rfl⟩ (Nat.le_of_ble_eq_true rfl) (Nat.le_of_ble_eq_true rfl)
set_option maxHeartbeats 2000000 in
theorem t_ncap (h : AH) {b v n mm : Nat} (B : SBp h b v n mm) {t : Nat} (ht : mm < t) (ht2 : t ≤ 400) : CT la D cA B0 pa yJ5_newCapacity_0f7a4 cJ5_newCapacity_0f7a4 6 (some .int) (rmD 2 0 0) [.ref b, vI t] h (fun r h' => r = some (vI (mm + max (t - mm) (mm + 2))) ∧ h' = h) := by
  refine CT_of (by decide +kernel) (Nat.le_of_ble_eq_true rfl) ?_
  intro p e s m args below meth c X E hr hlk hnm
  have dk : ∀ {pc : Nat} {q : Instr × Nat}, lkd DJ5_newCapacity_0f7a4 pc = some q → decode cJ5_newCapacity_0f7a4 pc = .ok q := lkd_ok DJ5_newCapacity_0f7a4_ok
  obtain ⟨t0, bs, hb, hv, hl, hf, hnm2, hm⟩ := id B
  refine fst1_ok X (dk rfl) rfl ?_
  refine getfI_ok X flJ5_15 (dk rfl) hb rfl ?_
  refine alen_ok (kd := 102) (vs := bs.map Value.int) X (by decide) (dk rfl) hv ?_
  rw [List.length_map, hl]
  iterate 3 refine fst1_ok X (dk rfl) rfl ?_
  refine getfI_ok X flJ5_22 (dk rfl) hb rfl ?_
  refine fst1_ok X (dk rfl) rfl ?_
  rw [sl0]
  iterate 4 refine fst1_ok X (dk rfl) rfl ?_
  rw [nI_sub (by omega)]
  iterate 6 refine fst1_ok X (dk rfl) rfl ?_
  refine getfI_ok X flJ5_22 (dk rfl) hb rfl ?_
  refine fst1_ok X (dk rfl) rfl ?_
  rw [sl0]
  refine fst1_ok X (dk rfl) rfl ?_
  rw [nI_2, nI_add]
  refine callS_ok (av := [vI mm, vI (t - mm), vI (mm + 2)]) (r := []) X E (t_nlen h (by omega) (by omega) (by omega) (by omega)) lkJ8_newLength_cabcc mlJ5_114 lsJ8_newLength_cabcc ⟨Nat.le_of_ble_eq_true rfl, Nat.le_of_ble_eq_true rfl⟩ ⟨Nat.le_of_ble_eq_true rfl, Nat.le_of_ble_eq_true rfl⟩ (Nat.le_of_ble_eq_true rfl) (dk rfl) ?_
  rintro _ _ ⟨rfl, rfl⟩
  iterate 2 refine fst1_ok X (dk rfl) rfl ?_
  refine ldc_ok X csJ5_39 (dk rfl) ?_
  have hlt := nI_ltM (t := mm + max (t - mm) (mm + 2)) (by omega)
  refine br_ok X (dk rfl) rfl (show ((38 : Nat) : Int) + 13 = ((51 : Nat) : Int) from rfl) (fun _ => ?_) (fun q => absurd (fun z => absurd hlt (by rw [z]; exact fun w => Int32.lt_irrefl w)) q)
  iterate 2 refine fst1_ok X (dk rfl) rfl ?_
  refine getfI_ok X flJ5_22 (dk rfl) hb rfl ?_
  refine fst1_ok X (dk rfl) rfl ?_
  rw [sh0]
  exact reti_ok X hr hlk rfl (dk rfl) ⟨rfl, rfl⟩ (Nat.le_of_ble_eq_true rfl) (Nat.le_of_ble_eq_true rfl)
set_option maxHeartbeats 4000000 in
theorem t_copyOf (h : AH) {v N : Nat} {bs : List Int32} (hv : h v = some (102, bs.map Value.int)) (hf : BF bs) (hl : bs.length < N) (hN : N ≤ 1000) : CT la D cA B0 pa yJ7_copyOf_9075b cJ7_copyOf_9075b 3 (some (.array .byte)) (rmD 1 1 N) [.ref v, vI N] h (NewB B0 h N) := by
  refine CT_of (by decide +kernel) (Nat.le_of_ble_eq_true rfl) ?_
  intro p e s m args below meth c X E hr hlk hnm
  have dk : ∀ {pc : Nat} {q : Instr × Nat}, lkd DJ7_copyOf_9075b pc = some q → decode cJ7_copyOf_9075b pc = .ok q := lkd_ok DJ7_copyOf_9075b_ok
  iterate 2 refine fst1_ok X (dk rfl) rfl ?_
  refine alen_ok (kd := 102) (vs := bs.map Value.int) X (by decide) (dk rfl) hv ?_
  rw [List.length_map]
  refine br_ok X (dk rfl) rfl (show ((3 : Nat) : Int) + 11 = ((14 : Nat) : Int) from rfl) (fun _ => ?_) (fun q => absurd (fun z => absurd (nI_inj (by omega) (by omega) z) (by omega)) q)
  refine fst1_ok X (dk rfl) rfl ?_
  refine newab_ok X (dk rfl) (by omega) (Nat.le_of_ble_eq_true rfl) (by show 0 + N ≤ N; omega) (fun q hq hBq => ?_)
  have hvq : v ≠ q := fun z => by rw [z, hq] at hv; cases hv
  iterate 6 refine fst1_ok X (dk rfl) rfl ?_
  refine alen_ok (kd := 102) (vs := bs.map Value.int) X (by decide) (dk rfl) (by rw [hup_ne _ _ hvq]; exact hv) ?_
  rw [List.length_map]
  refine fst1_ok X (dk rfl) rfl ?_
  refine mmin_ok X (x := bs.length) (y := N) (by omega) (by omega) mlJ7_304 (dk rfl) (Nat.le_of_ble_eq_true rfl) (Nat.le_of_ble_eq_true rfl) (Nat.le_of_ble_eq_true rfl) (by show 0 + N ≤ N; omega) ?_
  refine acopyH (sp := 0) (dp := 0) (z := min bs.length N) X acpJ7 (by rw [hup_ne _ _ hvq]; exact hv) (hup_self _ _ _) hf (by omega) (by rw [List.length_replicate]; omega) (by omega) (by rw [List.length_replicate]; omega) (Nat.le_of_ble_eq_true rfl) (Nat.le_of_ble_eq_true rfl) (dk rfl) (fun gs hgl hgf => ?_)
  refine fst1_ok X (dk rfl) rfl ?_
  exact reta_ok X hr hlk (Or.inr ⟨_, rfl⟩) (Or.inr ⟨_, rfl⟩) (dk rfl) ⟨q, gs, rfl, hq, hBq, hup_self _ _ _, fun a ha => by rw [hup_ne _ _ ha, hup_ne _ _ ha], by rw [hgl, List.length_replicate], hgf (BF_zero _)⟩ (Nat.le_of_ble_eq_true rfl) (by show 0 + N ≤ N; omega)
set_option maxHeartbeats 4000000 in
theorem t_ens (h : AH) {b v n mm : Nat} (B : SBp h b v n mm) {t N : Nat} (ht : t ≤ N) (hN : N ≤ 400) : CT la D cA B0 pa yJ5_ensureCapacityInternal_d00df cJ5_ensureCapacityInternal_d00df 3 none (rmD 3 1 (2 * N)) [.ref b, vI t] h (fun r h' => r = none ∧ ∃ m', t ≤ m' ∧ SBQ B0 h b v n m' h') := by
  refine CT_of (by decide +kernel) (Nat.le_of_ble_eq_true rfl) ?_
  intro p e s m args below meth c X E hr hlk hnm
  have dk : ∀ {pc : Nat} {q : Instr × Nat}, lkd DJ5_ensureCapacityInternal_d00df pc = some q → decode cJ5_ensureCapacityInternal_d00df pc = .ok q := lkd_ok DJ5_ensureCapacityInternal_d00df_ok
  obtain ⟨t0, bs, hb, hv, hl, hf, hnm2, hm⟩ := id B
  refine fst1_ok X (dk rfl) rfl ?_
  refine getfI_ok X flJ5_15 (dk rfl) hb rfl ?_
  refine alen_ok (kd := 102) (vs := bs.map Value.int) X (by decide) (dk rfl) hv ?_
  rw [List.length_map, hl]
  refine fst1_ok X (dk rfl) rfl ?_
  refine getfI_ok X flJ5_22 (dk rfl) hb rfl ?_
  refine fst1_ok X (dk rfl) rfl ?_
  rw [sh0]
  iterate 4 refine fst1_ok X (dk rfl) rfl ?_
  by_cases hc : t ≤ mm
  · refine br_ok X (dk rfl) rfl (show ((14 : Nat) : Int) + 24 = ((38 : Nat) : Int) from rfl) (fun _ => ?_) (fun q => absurd (nI_subLe hc (by omega)) q)
    exact retv_ok X hr hlk (dk rfl) ⟨rfl, mm, hc, v, B, Or.inl rfl, fun _ _ _ _ g => g⟩ (Nat.le_of_ble_eq_true rfl) (Nat.zero_le _)
  · rw [nI_sub (by omega)]
    refine br_ok X (dk rfl) rfl (show ((14 : Nat) : Int) + 24 = ((38 : Nat) : Int) from rfl) (fun q => absurd (nI_le0 (by omega) q) (by omega)) (fun _ => ?_)
    iterate 2 refine fst1_ok X (dk rfl) rfl ?_
    refine getfI_ok X flJ5_15 (dk rfl) hb rfl ?_
    iterate 2 refine fst1_ok X (dk rfl) rfl ?_
    refine callU_ok (ci := 1) (T := TJ4) (N := 4) (C := RJ4) (av := [vI t]) (r := [.ref v, .ref b]) X E (t_ncap h B (t := t) (by omega) (by omega)) lkJ5_newCapacity_0f7a4 rfl mlJ5_104 smJ5_ncap slJ5_ncap lmJ5_newCapacity_0f7a4 ⟨Nat.le_of_ble_eq_true rfl, Nat.le_of_ble_eq_true rfl⟩ ⟨Nat.le_of_ble_eq_true rfl, Nat.zero_le _⟩ rfl hb (Nat.le_of_ble_eq_true rfl) (dk rfl) ?_
    rintro _ _ ⟨rfl, rfl⟩
    generalize hM : mm + max (t - mm) (mm + 2) = M
    have hM1 : mm < M ∧ t ≤ M ∧ M ≤ 2 * N := by omega
    refine fst1_ok X (dk rfl) rfl ?_
    refine getfI_ok X flJ5_22 (dk rfl) hb rfl ?_
    refine fst1_ok X (dk rfl) rfl ?_
    rw [sl0]
    refine callS_ok (av := [.ref v, vI M]) (r := [.ref b]) X E (t_copyOf _ hv hf (by omega) (by omega)) lkJ7_copyOf_9075b mlJ5_108 lsJ7_copyOf_9075b ⟨Nat.le_of_ble_eq_true rfl, Nat.le_of_ble_eq_true rfl⟩ ⟨Nat.le_of_ble_eq_true rfl, by show 0 + 0 + M ≤ 2 * N; omega⟩ (Nat.le_of_ble_eq_true rfl) (dk rfl) ?_
    rintro _ h2 ⟨q, bs2, rfl, hq, hBq, hq2, hk2, hl2, hf2⟩
    have hbq : b ≠ q := fun z => by rw [z, hq] at hb; cases hb
    have hb2 : h2 b = some (1, [.ref v, .int 0, t0, vI n]) := (hk2 b hbq).trans hb
    refine putfI_ok X flJ5_15 ftJ4_0 rfl rfl (dk rfl) hb2 (Nat.le_of_ble_eq_true rfl) ?_
    refine retv_ok X hr hlk (dk rfl) ⟨rfl, M, hM1.2.1, q, ⟨t0, bs2, hup_self _ _ _, by rw [hup_ne _ _ hbq.symm]; exact hq2, hl2, hf2, by omega, by omega⟩, Or.inr ⟨hq, hBq⟩, fun a c g1 g2 g3 => ?_⟩ (Nat.le_of_ble_eq_true rfl) (by show 0 + 0 + M ≤ 2 * N; omega)
    rw [hup_ne _ _ g1, hk2 a (fun z => by rw [z, hq] at g3; cases g3)]
    exact g3
set_option maxHeartbeats 8000000 in
theorem t_app (h : AH) {b v n mm : Nat} (B : SBp h b v n mm) {c0 N : Nat} (hc : c0 < 256) (ht : n + 1 ≤ N) (hN : N ≤ 400) : CT la D cA B0 pa yJ5_append_3fe6f cJ5_append_3fe6f 2 (some (.object "java/lang/AbstractStringBuilder")) (rmD 4 1 (2 * N)) [.ref b, vI c0] h (fun r h' => r = some (.ref b) ∧ ∃ m', SBQ B0 h b v (n + 1) m' h') := by
  refine CT_of (by decide +kernel) (Nat.le_of_ble_eq_true rfl) ?_
  intro p e s m args below meth c X E hr hlk hnm
  have dk : ∀ {pc : Nat} {q : Instr × Nat}, lkd DJ5_append_3fe6f pc = some q → decode cJ5_append_3fe6f pc = .ok q := lkd_ok DJ5_append_3fe6f_ok
  obtain ⟨t0, bs, hb, hv, hl, hf, hnm2, hm⟩ := id B
  iterate 2 refine fst1_ok X (dk rfl) rfl ?_
  refine getfI_ok X flJ5_79 (dk rfl) hb rfl ?_
  iterate 2 refine fst1_ok X (dk rfl) rfl ?_
  have e1 : Value.int (nI n + Int32.ofInt 1) = vI (n + 1) := congrArg Value.int (by rw [nI_1', nI_add])
  rw [e1]
  refine callU_ok (ci := 1) (T := TJ4) (N := 4) (C := RJ4) (av := [vI (n + 1)]) (r := []) X E (t_ens h B (t := n + 1) ht hN) lkJ5_ensureCapacityInternal_d00df rfl mlJ5_100 smJ5_ens slJ5_ens lmJ5_ensureCapacityInternal_d00df ⟨Nat.le_of_ble_eq_true rfl, Nat.le_of_ble_eq_true rfl⟩ ⟨Nat.le_of_ble_eq_true rfl, by show 0 + 2 * N ≤ 2 * N; omega⟩ rfl hb (Nat.le_of_ble_eq_true rfl) (dk rfl) ?_
  rintro _ h1 ⟨rfl, m1, hm1, v1, B1, hv1, hk1⟩
  obtain ⟨t1, bs1, hb1, hw1, hl1, hf1, hn1, hmm1⟩ := id B1
  have hne := B1.ne
  refine fst1_ok X (dk rfl) rfl ?_
  refine callU_ok (ci := 1) (T := TJ4) (N := 4) (C := RJ4) (av := []) (r := []) X E (t_lat h1 B1) lkJ5_isLatin1_aae02 rfl mlJ5_83 smJ5_lat slJ5_lat lmJ5_isLatin1_aae02 ⟨Nat.le_of_ble_eq_true rfl, Nat.le_of_ble_eq_true rfl⟩ ⟨Nat.le_of_ble_eq_true rfl, by show 0 + 2 * N + 0 ≤ 2 * N; omega⟩ rfl hb1 (Nat.le_of_ble_eq_true rfl) (dk rfl) ?_
  rintro _ _ ⟨rfl, rfl⟩
  refine br_ok X (dk rfl) rfl (show ((14 : Nat) : Int) + 31 = ((45 : Nat) : Int) from rfl) (fun q => absurd q (by decide)) (fun _ => ?_)
  refine fst1_ok X (dk rfl) rfl ?_
  refine callS_ok (av := [vI c0]) (r := []) X E (t_can _ hc) lkJ1_canEncode_fc78d mlJ5_191 lsJ1_canEncode_fc78d ⟨Nat.le_of_ble_eq_true rfl, Nat.le_of_ble_eq_true rfl⟩ ⟨Nat.le_of_ble_eq_true rfl, by show 0 + 2 * N + 0 + 0 ≤ 2 * N; omega⟩ (Nat.le_of_ble_eq_true rfl) (dk rfl) ?_
  rintro _ _ ⟨rfl, rfl⟩
  refine br_ok X (dk rfl) rfl (show ((21 : Nat) : Int) + 24 = ((45 : Nat) : Int) from rfl) (fun q => absurd q (by decide)) (fun _ => ?_)
  refine fst1_ok X (dk rfl) rfl ?_
  refine getfI_ok X flJ5_15 (dk rfl) hb1 rfl ?_
  iterate 2 refine fst1_ok X (dk rfl) rfl ?_
  refine getfI_ok X flJ5_79 (dk rfl) hb1 rfl ?_
  iterate 3 refine fst1_ok X (dk rfl) rfl ?_
  rw [e1]
  refine putfI_ok X flJ5_79 ftJ4_3 rfl rfl (dk rfl) hb1 (Nat.le_of_ble_eq_true rfl) ?_
  refine fst1_ok X (dk rfl) rfl ?_
  refine i2b_ok X (dk rfl) (fun y => ?_)
  refine bast_ok X (dk rfl) (by rw [hup_ne _ _ hne.symm]; exact hw1) (by omega) hf1 (by omega) (fun bs2 hl2 hf2 => ?_)
  refine br_ok X (dk rfl) rfl (show ((42 : Nat) : Int) + 33 = ((75 : Nat) : Int) from rfl) (fun _ => ?_) (fun q => absurd trivial q)
  refine fst1_ok X (dk rfl) rfl ?_
  refine reta_ok X hr hlk (Or.inl ⟨_, rfl⟩) (Or.inr ⟨_, rfl⟩) (dk rfl) ⟨rfl, m1, v1, ⟨t1, bs2, by rw [hup_ne _ _ hne]; exact hup_self _ _ _, hup_self _ _ _, by rw [hl2, hl1], hf2, hm1, hmm1⟩, hv1, fun a c g1 g2 g3 => ?_⟩ (Nat.le_of_ble_eq_true rfl) (by show 0 + 2 * N + 0 + 0 ≤ 2 * N; omega)
  have hav : a ≠ v1 := fun z => by
    rcases hv1 with w | w
    · exact g2 (z.trans w)
    · rw [z, w.1] at g3; cases g3
  rw [hup_ne _ _ hav, hup_ne _ _ g1]
  exact hk1 a c g1 g2 g3
set_option maxHeartbeats 2000000 in
theorem t_sapp (h : AH) {b v n mm : Nat} (B : SBp h b v n mm) {c0 N : Nat} (hc : c0 < 256) (ht : n + 1 ≤ N) (hN : N ≤ 400) : CT la D cA B0 pa yJ4_append_cf468 cJ4_append_cf468 2 (some (.object "java/lang/StringBuilder")) (rmD 5 1 (2 * N)) [.ref b, vI c0] h (fun r h' => r = some (.ref b) ∧ ∃ m', SBQ B0 h b v (n + 1) m' h') := by
  refine CT_of (by decide +kernel) (Nat.le_of_ble_eq_true rfl) ?_
  intro p e s m args below meth c X E hr hlk hnm
  have dk : ∀ {pc : Nat} {q : Instr × Nat}, lkd DJ4_append_cf468 pc = some q → decode cJ4_append_cf468 pc = .ok q := lkd_ok DJ4_append_cf468_ok
  obtain ⟨t0, bs, hb, hv, hl, hf, hnm2, hm⟩ := id B
  iterate 2 refine fst1_ok X (dk rfl) rfl ?_
  refine callSU_ok (ci := 1) (T := TJ4) (N := 4) (C := RJ4) (av := [vI c0]) (r := []) X E (t_app h B hc ht hN) lkJ5_append_3fe6f mlJ4_50 smJ5_app spJ4 lmJ5_append_3fe6f (by decide) ⟨Nat.le_of_ble_eq_true rfl, Nat.le_of_ble_eq_true rfl⟩ ⟨Nat.le_of_ble_eq_true rfl, by show 0 + 2 * N ≤ 2 * N; omega⟩ rfl hb (Nat.le_of_ble_eq_true rfl) (dk rfl) ?_
  rintro _ h1 ⟨rfl, P1⟩
  iterate 2 refine fst1_ok X (dk rfl) rfl ?_
  exact reta_ok X hr hlk (Or.inl ⟨_, rfl⟩) (Or.inr ⟨_, rfl⟩) (dk rfl) ⟨rfl, P1⟩ (Nat.le_of_ble_eq_true rfl) (by show 0 + 2 * N ≤ 2 * N; omega)
theorem t_coder (h : AH) {sa nn : Nat} (S : StrA D h sa nn) : CT la D cA B0 pa yJ0_coder_7d493 cJ0_coder_7d493 1 (some .byte) (rmD 0 0 0) [.ref sa] h (fun r h' => r = some (.int 0) ∧ h' = h) := by
  refine CT_of (by decide +kernel) (Nat.le_of_ble_eq_true rfl) ?_
  intro p e s m args below meth c X E hr hlk hnm
  have dk : ∀ {pc : Nat} {q : Instr × Nat}, lkd DJ0_coder_7d493 pc = some q → decode cJ0_coder_7d493 pc = .ok q := lkd_ok DJ0_coder_7d493_ok
  obtain ⟨va, hs⟩ := S
  refine getsC_ok X E glJ0_38 (dk rfl) ?_
  refine br_ok X (dk rfl) rfl (show ((3 : Nat) : Int) + 10 = ((13 : Nat) : Int) from rfl) (fun q => absurd q (by decide)) (fun _ => ?_)
  refine fst1_ok X (dk rfl) rfl ?_
  refine strK_ok X E hs (dk rfl) ?_
  refine br_ok X (dk rfl) rfl (show ((10 : Nat) : Int) + 4 = ((14 : Nat) : Int) from rfl) (fun _ => ?_) (fun q => absurd trivial q)
  exact reti_ok X hr hlk rfl (dk rfl) ⟨rfl, rfl⟩ (Nat.le_of_ble_eq_true rfl) (Nat.le_of_ble_eq_true rfl)
theorem t_slen (h : AH) {sa nn : Nat} (S : StrA D h sa nn) : CT la D cA B0 pa yJ0_length_8abf5 cJ0_length_8abf5 1 (some .int) (rmD 1 0 0) [.ref sa] h (fun r h' => r = some (vI nn) ∧ h' = h) := by
  refine CT_of (by decide +kernel) (Nat.le_of_ble_eq_true rfl) ?_
  intro p e s m args below meth c X E hr hlk hnm
  have dk : ∀ {pc : Nat} {q : Instr × Nat}, lkd DJ0_length_8abf5 pc = some q → decode cJ0_length_8abf5 pc = .ok q := lkd_ok DJ0_length_8abf5_ok
  obtain ⟨va, hs⟩ := id S
  refine fst1_ok X (dk rfl) rfl ?_
  refine strV_ok X E hs (dk rfl) ?_
  refine strL_ok X E hs (dk rfl) ?_
  refine fst1_ok X (dk rfl) rfl ?_
  refine callT_ok (av := []) (r := [vI nn]) X E hs (t_coder h S) lkJ0_coder_7d493 mlJ0_335 lmJ0_coder_7d493 lvJ0_coder_7d493 ⟨Nat.le_of_ble_eq_true rfl, Nat.le_of_ble_eq_true rfl⟩ ⟨Nat.le_of_ble_eq_true rfl, Nat.le_of_ble_eq_true rfl⟩ (Nat.le_of_ble_eq_true rfl) (dk rfl) ?_
  rintro _ _ ⟨rfl, rfl⟩
  refine fst1_ok X (dk rfl) rfl ?_
  rw [sh0]
  exact reti_ok X hr hlk rfl (dk rfl) ⟨rfl, rfl⟩ (Nat.le_of_ble_eq_true rfl) (Nat.le_of_ble_eq_true rfl)
theorem t_inf (h : AH) {b v n mm : Nat} (B : SBp h b v n mm) {sa nn : Nat} (S : StrA D h sa nn) : CT la D cA B0 pa yJ5_inflateIfNeededFor_a7421 cJ5_inflateIfNeededFor_a7421 2 none (rmD 1 0 0) [.ref b, .ref sa] h (fun r h' => r = none ∧ h' = h) := by
  refine CT_of (by decide +kernel) (Nat.le_of_ble_eq_true rfl) ?_
  intro p e s m args below meth c X E hr hlk hnm
  have dk : ∀ {pc : Nat} {q : Instr × Nat}, lkd DJ5_inflateIfNeededFor_a7421 pc = some q → decode cJ5_inflateIfNeededFor_a7421 pc = .ok q := lkd_ok DJ5_inflateIfNeededFor_a7421_ok
  obtain ⟨t0, bs, hb, hv, hl, hf, hnm2, hm⟩ := id B
  obtain ⟨va, hs⟩ := id S
  refine getsC_ok X E glJ5_18 (dk rfl) ?_
  refine br_ok X (dk rfl) rfl (show ((3 : Nat) : Int) + 18 = ((21 : Nat) : Int) from rfl) (fun q => absurd q (by decide)) (fun _ => ?_)
  refine fst1_ok X (dk rfl) rfl ?_
  refine getfI_ok X flJ5_22 (dk rfl) hb rfl ?_
  refine fst1_ok X (dk rfl) rfl ?_
  refine callT_ok (av := []) (r := [.int 0]) X E hs (t_coder h S) lkJ0_coder_7d493 mlJ5_40 lmJ0_coder_7d493 lvJ0_coder_7d493 ⟨Nat.le_of_ble_eq_true rfl, Nat.le_of_ble_eq_true rfl⟩ ⟨Nat.le_of_ble_eq_true rfl, Nat.le_of_ble_eq_true rfl⟩ (Nat.le_of_ble_eq_true rfl) (dk rfl) ?_
  rintro _ _ ⟨rfl, rfl⟩
  refine br_ok X (dk rfl) rfl (show ((14 : Nat) : Int) + 7 = ((21 : Nat) : Int) from rfl) (fun _ => ?_) (fun q => absurd rfl q)
  exact retv_ok X hr hlk (dk rfl) ⟨rfl, rfl⟩ (Nat.le_of_ble_eq_true rfl) (Nat.le_of_ble_eq_true rfl)
set_option maxHeartbeats 2000000 in
theorem t_getB (h : AH) {sa nn : Nat} (S : StrA D h sa nn) {v dp : Nat} {gs : List Int32} (hv : h v = some (102, gs.map Value.int)) (h5 : dp + nn ≤ gs.length) (hg : gs.length ≤ 1000) : CT la D cA B0 pa yJ0_getBytes_840e7 cJ0_getBytes_840e7 4 none (rmD 1 0 0) [.ref sa, .ref v, vI dp, .int 0] h (fun r h' => r = none ∧ ∃ gs' : List Int32, gs'.length = gs.length ∧ (BF gs → BF gs') ∧ h' = hup h v (102, gs'.map Value.int)) := by
  refine CT_of (by decide +kernel) (Nat.le_of_ble_eq_true rfl) ?_
  intro p e s m args below meth c X E hr hlk hnm
  have dk : ∀ {pc : Nat} {q : Instr × Nat}, lkd DJ0_getBytes_840e7 pc = some q → decode cJ0_getBytes_840e7 pc = .ok q := lkd_ok DJ0_getBytes_840e7_ok
  obtain ⟨va, hs⟩ := id S
  refine fst1_ok X (dk rfl) rfl ?_
  refine callT_ok (av := []) (r := []) X E hs (t_coder h S) lkJ0_coder_7d493 mlJ0_335 lmJ0_coder_7d493 lvJ0_coder_7d493 ⟨Nat.le_of_ble_eq_true rfl, Nat.le_of_ble_eq_true rfl⟩ ⟨Nat.le_of_ble_eq_true rfl, Nat.le_of_ble_eq_true rfl⟩ (Nat.le_of_ble_eq_true rfl) (dk rfl) ?_
  rintro _ _ ⟨rfl, rfl⟩
  refine fst1_ok X (dk rfl) rfl ?_
  refine br_ok X (dk rfl) rfl (show ((5 : Nat) : Int) + 23 = ((28 : Nat) : Int) from rfl) (fun q => absurd rfl q) (fun _ => ?_)
  refine fst1_ok X (dk rfl) rfl ?_
  refine strV_ok X E hs (dk rfl) ?_
  iterate 5 refine fst1_ok X (dk rfl) rfl ?_
  rw [sl0]
  refine fst1_ok X (dk rfl) rfl ?_
  refine strV_ok X E hs (dk rfl) ?_
  refine strL_ok X E hs (dk rfl) ?_
  refine acopyS X E acpJ0 hs hv h5 (by omega) (Nat.le_of_ble_eq_true rfl) (Nat.le_of_ble_eq_true rfl) (dk rfl) (fun gs2 hl2 hf2 => ?_)
  refine br_ok X (dk rfl) rfl (show ((25 : Nat) : Int) + 18 = ((43 : Nat) : Int) from rfl) (fun _ => ?_) (fun q => absurd trivial q)
  exact retv_ok X hr hlk (dk rfl) ⟨rfl, gs2, hl2, hf2, rfl⟩ (Nat.le_of_ble_eq_true rfl) (Nat.le_of_ble_eq_true rfl)
set_option maxHeartbeats 2000000 in
theorem t_put (h : AH) {b v n mm : Nat} (B : SBp h b v n mm) {sa nn : Nat} (S : StrA D h sa nn) {dp : Nat} (h5 : dp + nn ≤ mm) : CT la D cA B0 pa yJ5_putStringAt_47b60 cJ5_putStringAt_47b60 3 none (rmD 2 0 0) [.ref b, vI dp, .ref sa] h (fun r h' => r = none ∧ ∃ gs' : List Int32, gs'.length = mm ∧ BF gs' ∧ h' = hup h v (102, gs'.map Value.int)) := by
  refine CT_of (by decide +kernel) (Nat.le_of_ble_eq_true rfl) ?_
  intro p e s m args below meth c X E hr hlk hnm
  have dk : ∀ {pc : Nat} {q : Instr × Nat}, lkd DJ5_putStringAt_47b60 pc = some q → decode cJ5_putStringAt_47b60 pc = .ok q := lkd_ok DJ5_putStringAt_47b60_ok
  obtain ⟨t0, bs, hb, hv, hl, hf, hnm2, hm⟩ := id B
  obtain ⟨va, hs⟩ := id S
  iterate 2 refine fst1_ok X (dk rfl) rfl ?_
  refine callU_ok (ci := 1) (T := TJ4) (N := 4) (C := RJ4) (av := [.ref sa]) (r := []) X E (t_inf h B S) lkJ5_inflateIfNeededFor_a7421 rfl mlJ5_397 smJ5_inf slJ5_inf lmJ5_inflateIfNeededFor_a7421 ⟨Nat.le_of_ble_eq_true rfl, Nat.le_of_ble_eq_true rfl⟩ ⟨Nat.le_of_ble_eq_true rfl, Nat.le_of_ble_eq_true rfl⟩ rfl hb (Nat.le_of_ble_eq_true rfl) (dk rfl) ?_
  rintro _ _ ⟨rfl, rfl⟩
  iterate 2 refine fst1_ok X (dk rfl) rfl ?_
  refine getfI_ok X flJ5_15 (dk rfl) hb rfl ?_
  iterate 2 refine fst1_ok X (dk rfl) rfl ?_
  refine getfI_ok X flJ5_22 (dk rfl) hb rfl ?_
  refine callT_ok (av := [.ref v, vI dp, .int 0]) (r := []) X E hs (t_getB _ S hv (by omega) (by omega)) lkJ0_getBytes_840e7 mlJ5_399 lmJ0_getBytes_840e7 lvJ0_getBytes_840e7 ⟨Nat.le_of_ble_eq_true rfl, Nat.le_of_ble_eq_true rfl⟩ ⟨Nat.le_of_ble_eq_true rfl, Nat.le_of_ble_eq_true rfl⟩ (Nat.le_of_ble_eq_true rfl) (dk rfl) ?_
  rintro _ _ ⟨rfl, gs, g1, g2, rfl⟩
  exact retv_ok X hr hlk (dk rfl) ⟨rfl, gs, by omega, g2 hf, rfl⟩ (Nat.le_of_ble_eq_true rfl) (Nat.le_of_ble_eq_true rfl)
set_option maxHeartbeats 8000000 in
theorem t_apps (h : AH) {b v n mm : Nat} (B : SBp h b v n mm) {sa nn : Nat} (SS : StrS D h sa v nn) {N : Nat} (ht : n + nn ≤ N) (hN : N ≤ 400) : CT la D cA B0 pa yJ5_append_cf1ce cJ5_append_cf1ce 3 (some (.object "java/lang/AbstractStringBuilder")) (rmD 4 1 (2 * N)) [.ref b, .ref sa] h (fun r h' => r = some (.ref b) ∧ ∃ m', SBQ B0 h b v (n + nn) m' h') := by
  refine CT_of (by decide +kernel) (Nat.le_of_ble_eq_true rfl) ?_
  intro p e s m args below meth c X E hr hlk hnm
  have dk : ∀ {pc : Nat} {q : Instr × Nat}, lkd DJ5_append_cf1ce pc = some q → decode cJ5_append_cf1ce pc = .ok q := lkd_ok DJ5_append_cf1ce_ok
  obtain ⟨t0, bs, hb, hv, hl, hf, hnm2, hm⟩ := id B
  have S := SS.to
  obtain ⟨va, hs⟩ := id S
  refine fst1_ok X (dk rfl) rfl ?_
  refine br_ok X (dk rfl) rfl (show ((1 : Nat) : Int) + 8 = ((9 : Nat) : Int) from rfl) (fun _ => ?_) (fun q => absurd trivial q)
  refine fst1_ok X (dk rfl) rfl ?_
  refine callT_ok (av := []) (r := []) X E hs (t_slen h S) lkJ0_length_8abf5 mlJ5_32 lmJ0_length_8abf5 lvJ0_length_8abf5 ⟨Nat.le_of_ble_eq_true rfl, Nat.le_of_ble_eq_true rfl⟩ ⟨Nat.le_of_ble_eq_true rfl, Nat.zero_le _⟩ (Nat.le_of_ble_eq_true rfl) (dk rfl) ?_
  rintro _ _ ⟨rfl, rfl⟩
  iterate 3 refine fst1_ok X (dk rfl) rfl ?_
  refine getfI_ok X flJ5_79 (dk rfl) hb rfl ?_
  iterate 2 refine fst1_ok X (dk rfl) rfl ?_
  have e1 : Value.int (nI n + nI nn) = vI (n + nn) := congrArg Value.int (nI_add _ _)
  rw [e1]
  refine callU_ok (ci := 1) (T := TJ4) (N := 4) (C := RJ4) (av := [vI (n + nn)]) (r := []) X E (t_ens _ B (t := n + nn) ht hN) lkJ5_ensureCapacityInternal_d00df rfl mlJ5_100 smJ5_ens slJ5_ens lmJ5_ensureCapacityInternal_d00df ⟨Nat.le_of_ble_eq_true rfl, Nat.le_of_ble_eq_true rfl⟩ ⟨Nat.le_of_ble_eq_true rfl, by show 0 + 0 + 2 * N ≤ 2 * N; omega⟩ rfl hb (Nat.le_of_ble_eq_true rfl) (dk rfl) ?_
  rintro _ h1 ⟨rfl, m1, hm1, v1, B1, hv1, hk1⟩
  obtain ⟨t1, bs1, hb1, hw1, hl1, hf1, hn1, hmm1⟩ := id B1
  have hne := B1.ne
  have S1 : StrA D h1 sa nn := SS.kept B hk1
  obtain ⟨va1, hs1⟩ := id S1
  iterate 2 refine fst1_ok X (dk rfl) rfl ?_
  refine getfI_ok X flJ5_79 (dk rfl) hb1 rfl ?_
  refine fst1_ok X (dk rfl) rfl ?_
  refine callU_ok (ci := 1) (T := TJ4) (N := 4) (C := RJ4) (av := [vI n, .ref sa]) (r := []) X E (t_put h1 B1 S1 (dp := n) hm1) lkJ5_putStringAt_47b60 rfl mlJ5_208 smJ5_put slJ5_put lmJ5_putStringAt_47b60 ⟨Nat.le_of_ble_eq_true rfl, Nat.le_of_ble_eq_true rfl⟩ ⟨Nat.le_of_ble_eq_true rfl, by show 0 + 0 + 2 * N + 0 ≤ 2 * N; omega⟩ rfl hb1 (Nat.le_of_ble_eq_true rfl) (dk rfl) ?_
  rintro _ _ ⟨rfl, gs, g1, g2, rfl⟩
  have hb2 : hup h1 v1 (102, gs.map Value.int) b = some (1, [.ref v1, .int 0, t1, vI n]) := by rw [hup_ne _ _ hne]; exact hb1
  iterate 2 refine fst1_ok X (dk rfl) rfl ?_
  refine getfI_ok X flJ5_79 (dk rfl) hb2 rfl ?_
  iterate 2 refine fst1_ok X (dk rfl) rfl ?_
  rw [e1]
  refine putfI_ok X flJ5_79 ftJ4_3 rfl rfl (dk rfl) hb2 (Nat.le_of_ble_eq_true rfl) ?_
  refine fst1_ok X (dk rfl) rfl ?_
  refine reta_ok X hr hlk (Or.inl ⟨_, rfl⟩) (Or.inr ⟨_, rfl⟩) (dk rfl) ⟨rfl, m1, v1, ⟨t1, gs, hup_self _ _ _, by rw [hup_ne _ _ hne.symm]; exact hup_self _ _ _, g1, g2, hm1, hmm1⟩, hv1, fun a c g1 g2 g3 => ?_⟩ (Nat.le_of_ble_eq_true rfl) (by show 0 + 0 + 2 * N + 0 ≤ 2 * N; omega)
  have hav : a ≠ v1 := fun z => by
    rcases hv1 with w | w
    · exact g2 (z.trans w)
    · rw [z, w.1] at g3; cases g3
  rw [hup_ne _ _ g1, hup_ne _ _ hav]
  exact hk1 a c g1 g2 g3
set_option maxHeartbeats 2000000 in
theorem t_sapps (h : AH) {b v n mm : Nat} (B : SBp h b v n mm) {sa nn : Nat} (SS : StrS D h sa v nn) {N : Nat} (ht : n + nn ≤ N) (hN : N ≤ 400) : CT la D cA B0 pa yJ4_append_15ec4 cJ4_append_15ec4 2 (some (.object "java/lang/StringBuilder")) (rmD 5 1 (2 * N)) [.ref b, .ref sa] h (fun r h' => r = some (.ref b) ∧ ∃ m', SBQ B0 h b v (n + nn) m' h') := by
  refine CT_of (by decide +kernel) (Nat.le_of_ble_eq_true rfl) ?_
  intro p e s m args below meth c X E hr hlk hnm
  have dk : ∀ {pc : Nat} {q : Instr × Nat}, lkd DJ4_append_15ec4 pc = some q → decode cJ4_append_15ec4 pc = .ok q := lkd_ok DJ4_append_15ec4_ok
  obtain ⟨t0, bs, hb, hv, hl, hf, hnm2, hm⟩ := id B
  iterate 2 refine fst1_ok X (dk rfl) rfl ?_
  refine callSU_ok (ci := 1) (T := TJ4) (N := 4) (C := RJ4) (av := [.ref sa]) (r := []) X E (t_apps h B SS ht hN) lkJ5_append_cf1ce mlJ4_29 smJ5_apps spJ4 lmJ5_append_cf1ce (by decide) ⟨Nat.le_of_ble_eq_true rfl, Nat.le_of_ble_eq_true rfl⟩ ⟨Nat.le_of_ble_eq_true rfl, by show 0 + 2 * N ≤ 2 * N; omega⟩ rfl hb (Nat.le_of_ble_eq_true rfl) (dk rfl) ?_
  rintro _ h1 ⟨rfl, P1⟩
  iterate 2 refine fst1_ok X (dk rfl) rfl ?_
  exact reta_ok X hr hlk (Or.inl ⟨_, rfl⟩) (Or.inr ⟨_, rfl⟩) (dk rfl) ⟨rfl, P1⟩ (Nat.le_of_ble_eq_true rfl) (by show 0 + 2 * N ≤ 2 * N; omega)
theorem t_val (h : AH) {b v n mm : Nat} (B : SBp h b v n mm) : CT la D cA B0 pa yJ5_getValue_6d5f1 cJ5_getValue_6d5f1 1 (some (.array .byte)) (rmD 0 0 0) [.ref b] h (fun r h' => r = some (.ref v) ∧ h' = h) := by
  refine CT_of (by decide +kernel) (Nat.le_of_ble_eq_true rfl) ?_
  intro p e s m args below meth c X E hr hlk hnm
  have dk : ∀ {pc : Nat} {q : Instr × Nat}, lkd DJ5_getValue_6d5f1 pc = some q → decode cJ5_getValue_6d5f1 pc = .ok q := lkd_ok DJ5_getValue_6d5f1_ok
  obtain ⟨t0, bs, hb, hv, hl, hf, hnm2, hm⟩ := id B
  refine fst1_ok X (dk rfl) rfl ?_
  refine getfI_ok X flJ5_15 (dk rfl) hb rfl ?_
  exact reta_ok X hr hlk (Or.inr ⟨_, rfl⟩) (Or.inr ⟨_, rfl⟩) (dk rfl) ⟨rfl, rfl⟩ (Nat.le_of_ble_eq_true rfl) (Nat.le_of_ble_eq_true rfl)
theorem t_len (h : AH) {b v n mm : Nat} (B : SBp h b v n mm) : CT la D cA B0 pa yJ5_length_8abf5 cJ5_length_8abf5 1 (some .int) (rmD 0 0 0) [.ref b] h (fun r h' => r = some (vI n) ∧ h' = h) := by
  refine CT_of (by decide +kernel) (Nat.le_of_ble_eq_true rfl) ?_
  intro p e s m args below meth c X E hr hlk hnm
  have dk : ∀ {pc : Nat} {q : Instr × Nat}, lkd DJ5_length_8abf5 pc = some q → decode cJ5_length_8abf5 pc = .ok q := lkd_ok DJ5_length_8abf5_ok
  obtain ⟨t0, bs, hb, hv, hl, hf, hnm2, hm⟩ := id B
  refine fst1_ok X (dk rfl) rfl ?_
  refine getfI_ok X flJ5_79 (dk rfl) hb rfl ?_
  exact reti_ok X hr hlk rfl (dk rfl) ⟨rfl, rfl⟩ (Nat.le_of_ble_eq_true rfl) (Nat.le_of_ble_eq_true rfl)
theorem t_sblen (h : AH) {b v n mm : Nat} (B : SBp h b v n mm) : CT la D cA B0 pa yJ4_length_8abf5 cJ4_length_8abf5 1 (some .int) (rmD 1 0 0) [.ref b] h (fun r h' => r = some (vI n) ∧ h' = h) := by
  refine CT_of (by decide +kernel) (Nat.le_of_ble_eq_true rfl) ?_
  intro p e s m args below meth c X E hr hlk hnm
  have dk : ∀ {pc : Nat} {q : Instr × Nat}, lkd DJ4_length_8abf5 pc = some q → decode cJ4_length_8abf5 pc = .ok q := lkd_ok DJ4_length_8abf5_ok
  obtain ⟨t0, bs, hb, hv, hl, hf, hnm2, hm⟩ := id B
  refine fst1_ok X (dk rfl) rfl ?_
  refine callSU_ok (ci := 1) (T := TJ4) (N := 4) (C := RJ4) (av := []) (r := []) X E (t_len h B) lkJ5_length_8abf5 mlJ4_343 smJ5_len spJ4 lmJ5_length_8abf5 (by decide) ⟨Nat.le_of_ble_eq_true rfl, Nat.le_of_ble_eq_true rfl⟩ ⟨Nat.le_of_ble_eq_true rfl, Nat.le_of_ble_eq_true rfl⟩ rfl hb (Nat.le_of_ble_eq_true rfl) (dk rfl) ?_
  rintro _ _ ⟨rfl, rfl⟩
  exact reti_ok X hr hlk rfl (dk rfl) ⟨rfl, rfl⟩ (Nat.le_of_ble_eq_true rfl) (Nat.le_of_ble_eq_true rfl)
theorem t_chk (h : AH) {nn : Nat} (hn : nn < 2 ^ 20) : CT la D cA B0 pa yJ7_checkLength_df160 cJ7_checkLength_df160 2 none (rmD 0 0 0) [.int 0, vI nn] h (fun r h' => r = none ∧ h' = h) := by
  refine CT_of (by decide +kernel) (Nat.le_of_ble_eq_true rfl) ?_
  intro p e s m args below meth c X E hr hlk hnm
  have dk : ∀ {pc : Nat} {q : Instr × Nat}, lkd DJ7_checkLength_df160 pc = some q → decode cJ7_checkLength_df160 pc = .ok q := lkd_ok DJ7_checkLength_df160_ok
  iterate 2 refine fst1_ok X (dk rfl) rfl ?_
  refine br_ok X (dk rfl) rfl (show ((2 : Nat) : Int) + 35 = ((37 : Nat) : Int) from rfl) (fun _ => ?_) (fun q => absurd (Int32.not_lt.mp (nI_pos (by omega))) q)
  exact retv_ok X hr hlk (dk rfl) ⟨rfl, rfl⟩ (Nat.le_of_ble_eq_true rfl) (Nat.le_of_ble_eq_true rfl)
set_option maxHeartbeats 4000000 in
theorem t_cprB (h : AH) {v nn : Nat} {bs : List Int32} (hv : h v = some (102, bs.map Value.int)) (hf : BF bs) (hn : nn ≤ bs.length) (hl : bs.length ≤ 1000) : CT la D cA B0 pa yJ7_copyOfRangeByte_39247 cJ7_copyOfRangeByte_39247 5 (some (.array .byte)) (rmD 1 1 nn) [.ref v, .int 0, vI nn] h (NewB B0 h nn) := by
  refine CT_of (by decide +kernel) (Nat.le_of_ble_eq_true rfl) ?_
  intro p e s m args below meth c X E hr hlk hnm
  have dk : ∀ {pc : Nat} {q : Instr × Nat}, lkd DJ7_copyOfRangeByte_39247 pc = some q → decode cJ7_copyOfRangeByte_39247 pc = .ok q := lkd_ok DJ7_copyOfRangeByte_39247_ok
  iterate 2 refine fst1_ok X (dk rfl) rfl ?_
  refine callS_ok (av := [.int 0, vI nn]) (r := []) X E (t_chk _ (by omega)) lkJ7_checkLength_df160 mlJ7_343 lsJ7_checkLength_df160 ⟨Nat.le_of_ble_eq_true rfl, Nat.le_of_ble_eq_true rfl⟩ ⟨Nat.le_of_ble_eq_true rfl, Nat.zero_le _⟩ (Nat.le_of_ble_eq_true rfl) (dk rfl) ?_
  rintro _ _ ⟨rfl, rfl⟩
  iterate 3 refine fst1_ok X (dk rfl) rfl ?_
  have e1 : Value.int (nI nn - 0) = vI nn := congrArg Value.int (Int32.sub_zero _)
  rw [e1]
  iterate 2 refine fst1_ok X (dk rfl) rfl ?_
  refine newab_ok X (dk rfl) (by omega) (Nat.le_of_ble_eq_true rfl) (by show 0 + 0 + nn ≤ nn; omega) (fun q hq hBq => ?_)
  have hvq : v ≠ q := fun z => by rw [z, hq] at hv; cases hv
  iterate 6 refine fst1_ok X (dk rfl) rfl ?_
  refine alen_ok (kd := 102) (vs := bs.map Value.int) X (by decide) (dk rfl) (by rw [hup_ne _ _ hvq]; exact hv) ?_
  rw [List.length_map]
  iterate 2 refine fst1_ok X (dk rfl) rfl ?_
  rw [Int32.sub_zero]
  refine fst1_ok X (dk rfl) rfl ?_
  refine mmin_ok X (x := bs.length) (y := nn) (by omega) (by omega) mlJ7_304 (dk rfl) (Nat.le_of_ble_eq_true rfl) (Nat.le_of_ble_eq_true rfl) (Nat.le_of_ble_eq_true rfl) (by show 0 + 0 + nn ≤ nn; omega) ?_
  refine acopyH (sp := 0) (dp := 0) (z := min bs.length nn) X acpJ7 (by rw [hup_ne _ _ hvq]; exact hv) (hup_self _ _ _) hf (by omega) (by rw [List.length_replicate]; omega) (by omega) (by rw [List.length_replicate]; omega) (Nat.le_of_ble_eq_true rfl) (Nat.le_of_ble_eq_true rfl) (dk rfl) (fun gs hgl hgf => ?_)
  refine fst1_ok X (dk rfl) rfl ?_
  exact reta_ok X hr hlk (Or.inr ⟨_, rfl⟩) (Or.inr ⟨_, rfl⟩) (dk rfl) ⟨q, gs, rfl, hq, hBq, hup_self _ _ _, fun a ha => by rw [hup_ne _ _ ha, hup_ne _ _ ha], by rw [hgl, List.length_replicate], hgf (BF_zero _)⟩ (Nat.le_of_ble_eq_true rfl) (by show 0 + 0 + nn ≤ nn; omega)
set_option maxHeartbeats 4000000 in
theorem t_cpr (h : AH) {v nn : Nat} {bs : List Int32} (hv : h v = some (102, bs.map Value.int)) (hf : BF bs) (hn : nn ≤ bs.length) (hl : bs.length ≤ 1000) : CT la D cA B0 pa yJ7_copyOfRange_39247 cJ7_copyOfRange_39247 3 (some (.array .byte)) (rmD 2 1 nn) [.ref v, .int 0, vI nn] h (NewB B0 h nn) := by
  refine CT_of (by decide +kernel) (Nat.le_of_ble_eq_true rfl) ?_
  intro p e s m args below meth c X E hr hlk hnm
  have dk : ∀ {pc : Nat} {q : Instr × Nat}, lkd DJ7_copyOfRange_39247 pc = some q → decode cJ7_copyOfRange_39247 pc = .ok q := lkd_ok DJ7_copyOfRange_39247_ok
  refine fst1_ok X (dk rfl) rfl ?_
  refine br_ok X (dk rfl) rfl (show ((1 : Nat) : Int) + 9 = ((10 : Nat) : Int) from rfl) (fun q => absurd rfl q) (fun _ => ?_)
  iterate 2 refine fst1_ok X (dk rfl) rfl ?_
  refine alen_ok (kd := 102) (vs := bs.map Value.int) X (by decide) (dk rfl) hv ?_
  rw [List.length_map]
  by_cases hc : nn = bs.length
  · refine br_ok X (dk rfl) rfl (show ((7 : Nat) : Int) + 10 = ((17 : Nat) : Int) from rfl) (fun _ => ?_) (fun q => absurd (by rw [hc]) q)
    refine fst1_ok X (dk rfl) rfl ?_
    refine clone_ok X E hv hf (Nat.le_of_ble_eq_true rfl) (Nat.le_of_ble_eq_true rfl) (Nat.le_of_ble_eq_true rfl) (by show 0 + bs.length ≤ nn; omega) (dk rfl) (fun q hq hBq => ?_)
    refine castB_ok X (hup_self _ _ _) (dk rfl) ?_
    exact reta_ok X hr hlk (Or.inr ⟨_, rfl⟩) (Or.inr ⟨_, rfl⟩) (dk rfl) ⟨q, bs, rfl, hq, hBq, hup_self _ _ _, fun a ha => hup_ne _ _ ha, hc.symm, hf⟩ (Nat.le_of_ble_eq_true rfl) (by show 0 + bs.length ≤ nn; omega)
  · refine br_ok X (dk rfl) rfl (show ((7 : Nat) : Int) + 10 = ((17 : Nat) : Int) from rfl) (fun q => absurd (nI_inj (by omega) (by omega) q) hc) (fun _ => ?_)
    iterate 3 refine fst1_ok X (dk rfl) rfl ?_
    refine callS_ok (av := [.ref v, .int 0, vI nn]) (r := []) X E (t_cprB h hv hf hn hl) lkJ7_copyOfRangeByte_39247 mlJ7_339 lsJ7_copyOfRangeByte_39247 ⟨Nat.le_of_ble_eq_true rfl, Nat.le_of_ble_eq_true rfl⟩ ⟨Nat.le_of_ble_eq_true rfl, by show 0 + nn ≤ nn; omega⟩ (Nat.le_of_ble_eq_true rfl) (dk rfl) ?_
    rintro _ h2 P2
    obtain ⟨q, bs2, rfl, P3⟩ := P2
    exact reta_ok X hr hlk (Or.inr ⟨_, rfl⟩) (Or.inr ⟨_, rfl⟩) (dk rfl) ⟨q, bs2, rfl, P3⟩ (Nat.le_of_ble_eq_true rfl) (by show 0 + nn ≤ nn; omega)
set_option maxHeartbeats 8000000 in
theorem t_ini (h : AH) {b v n mm : Nat} (B : SBp h b v n mm) {o : Nat} {x0 y0 : Value} (ho : h o = some (0, [.null, .int 0, x0, y0])) : CT la D cA B0 pa yJ0_init_db425 cJ0_init_db425 5 none (rmD 3 1 n) [.ref o, .ref b, .null] h (fun r h' => r = none ∧ ∃ va bs, h' o = some (0, [.ref va, .int 0, x0, y0]) ∧ h' va = some (102, bs.map Value.int) ∧ bs.length = n ∧ BF bs ∧ h va = none ∧ ∀ (a : Nat) (c : AC), a ≠ o → h a = some c → h' a = some c) := by
  refine CT_of (by decide +kernel) (Nat.le_of_ble_eq_true rfl) ?_
  intro p e s m args below meth c X E hr hlk hnm
  have dk : ∀ {pc : Nat} {q : Instr × Nat}, lkd DJ0_init_db425 pc = some q → decode cJ0_init_db425 pc = .ok q := lkd_ok DJ0_init_db425_ok
  obtain ⟨t0, bs, hb, hv, hl, hf, hnm2, hm⟩ := id B
  refine fst1_ok X (dk rfl) rfl ?_
  refine obj_ok X ml0_objB (dk rfl) (Nat.le_of_ble_eq_true rfl) (Nat.le_of_ble_eq_true rfl) (Nat.le_of_ble_eq_true rfl) ?_
  refine fst1_ok X (dk rfl) rfl ?_
  refine callU_ok (ci := 1) (T := TJ4) (N := 4) (C := RJ4) (av := []) (r := []) X E (t_val h B) lkJ5_getValue_6d5f1 rfl mlJ0_552 smJ5_val slJ5_val lmJ5_getValue_6d5f1 ⟨Nat.le_of_ble_eq_true rfl, Nat.le_of_ble_eq_true rfl⟩ ⟨Nat.zero_le _, Nat.zero_le _⟩ rfl hb (Nat.le_of_ble_eq_true rfl) (dk rfl) ?_
  rintro _ _ ⟨rfl, rfl⟩
  iterate 2 refine fst1_ok X (dk rfl) rfl ?_
  refine callO_ok (ci := 1) (T := TJ4) (N := 4) (C := RJ4) (av := []) (r := []) X E (t_sblen _ B) lkJ4_length_8abf5 lkJ5_length_8abf5 mlJ0_549 smJ5_len slJ5_len lmJ5_length_8abf5 lmJ4_length_8abf5 ⟨Nat.le_of_ble_eq_true rfl, Nat.le_of_ble_eq_true rfl⟩ ⟨Nat.zero_le _, Nat.zero_le _⟩ rfl hb (Nat.le_of_ble_eq_true rfl) (dk rfl) ?_
  rintro _ _ ⟨rfl, rfl⟩
  iterate 2 refine fst1_ok X (dk rfl) rfl ?_
  refine callU_ok (ci := 1) (T := TJ4) (N := 4) (C := RJ4) (av := []) (r := []) X E (t_lat _ B) lkJ5_isLatin1_aae02 rfl mlJ0_1047 smJ5_lat slJ5_lat lmJ5_isLatin1_aae02 ⟨Nat.le_of_ble_eq_true rfl, Nat.le_of_ble_eq_true rfl⟩ ⟨Nat.zero_le _, Nat.zero_le _⟩ rfl hb (Nat.le_of_ble_eq_true rfl) (dk rfl) ?_
  rintro _ _ ⟨rfl, rfl⟩
  refine br_ok X (dk rfl) rfl (show ((19 : Nat) : Int) + 22 = ((41 : Nat) : Int) from rfl) (fun q => absurd q (by decide)) (fun _ => ?_)
  iterate 2 refine fst1_ok X (dk rfl) rfl ?_
  refine putf_ok X flJ0_15' ftJ0_1 (Or.inr ⟨by rw [hnm]; rfl, RJ0, TJ0, 4, rfl, rfl⟩) rfl rfl (dk rfl) ho (Nat.le_of_ble_eq_true rfl) ?_
  generalize hh1 : hup _ o _ = h1
  have hob : b ≠ o := fun z => by rw [z, ho] at hb; cases hb
  have hov : v ≠ o := fun z => by rw [z, ho] at hv; cases hv
  have ho1 : h1 o = some (0, [.null, .int 0, x0, y0]) := by rw [← hh1]; exact hup_self _ _ _
  have hv1 : h1 v = some (102, bs.map Value.int) := by rw [← hh1, hup_ne _ _ hov]; exact hv
  iterate 4 refine fst1_ok X (dk rfl) rfl ?_
  refine callS_ok (av := [.ref v, .int 0, vI n]) (r := [.ref o]) X E (t_cpr h1 hv1 hf (by omega) (by omega)) lkJ7_copyOfRange_39247 mlJ0_54 lsJ7_copyOfRange_39247 ⟨Nat.le_of_ble_eq_true rfl, Nat.le_of_ble_eq_true rfl⟩ ⟨Nat.le_of_ble_eq_true rfl, by show 0 + 0 + 0 + 0 + n ≤ n; omega⟩ (Nat.le_of_ble_eq_true rfl) (dk rfl) ?_
  rintro _ h2 ⟨q, bs2, rfl, hq, hBq, hq2, hk2, hl2, hf2⟩
  have hoq : o ≠ q := fun z => by rw [z, hq] at ho1; cases ho1
  have ho2 : h2 o = some (0, [.null, .int 0, x0, y0]) := (hk2 o hoq).trans ho1
  refine putf_ok X flJ0_9' ftJ0_0 (Or.inr ⟨by rw [hnm]; rfl, RJ0, TJ0, 4, rfl, rfl⟩) rfl rfl (dk rfl) ho2 (Nat.le_of_ble_eq_true rfl) ?_
  refine br_ok X (dk rfl) rfl (show ((38 : Nat) : Int) + 59 = ((97 : Nat) : Int) from rfl) (fun _ => ?_) (fun q => absurd trivial q)
  refine retv_ok X hr hlk (dk rfl) ⟨rfl, q, bs2, hup_self _ _ _, by rw [hup_ne _ _ hoq.symm]; exact hq2, hl2, hf2, ?_, fun a c g1 g2 => ?_⟩ (Nat.le_of_ble_eq_true rfl) (by show 0 + 0 + 0 + 0 + n ≤ n; omega)
  · rw [← hh1, hup_ne _ _ hoq.symm] at hq
    exact hq
  · have g3 : h1 a = some c := by rw [← hh1, hup_ne _ _ g1]; exact g2
    rw [hup_ne _ _ g1, hk2 a (fun z => by rw [z, hq] at g3; cases g3)]
    exact g3
set_option maxHeartbeats 2000000 in
theorem t_ini2 (h : AH) {b v n mm : Nat} (B : SBp h b v n mm) {o : Nat} {x0 y0 : Value} (ho : h o = some (0, [.null, .int 0, x0, y0])) : CT la D cA B0 pa yJ0_init_81219 cJ0_init_81219 2 none (rmD 4 1 n) [.ref o, .ref b] h (fun r h' => r = none ∧ ∃ va bs, h' o = some (0, [.ref va, .int 0, x0, y0]) ∧ h' va = some (102, bs.map Value.int) ∧ bs.length = n ∧ BF bs ∧ h va = none ∧ ∀ (a : Nat) (c : AC), a ≠ o → h a = some c → h' a = some c) := by
  refine CT_of (by decide +kernel) (Nat.le_of_ble_eq_true rfl) ?_
  intro p e s m args below meth c X E hr hlk hnm
  have dk : ∀ {pc : Nat} {q : Instr × Nat}, lkd DJ0_init_81219 pc = some q → decode cJ0_init_81219 pc = .ok q := lkd_ok DJ0_init_81219_ok
  iterate 3 refine fst1_ok X (dk rfl) rfl ?_
  refine callI_ok (av := [.ref b, .null]) (r := []) X E (t_ini h B ho) lkJ0_init_db425 mlJ0_489 lmJ0_init_db425 rfl ⟨Nat.le_of_ble_eq_true rfl, Nat.le_of_ble_eq_true rfl⟩ ⟨Nat.le_of_ble_eq_true rfl, by show 0 + n ≤ n; omega⟩ (Nat.le_of_ble_eq_true rfl) (dk rfl) ?_
  rintro _ h1 ⟨rfl, P1⟩
  exact retv_ok X hr hlk (dk rfl) ⟨rfl, P1⟩ (Nat.le_of_ble_eq_true rfl) (by show 0 + n ≤ n; omega)
theorem ncJ4_18 : NC RJ4 18 0 [.null, .int 0, .int 0, .int 0] := by
  refine ⟨RJ0, TJ0, 4, tyJ0, rfl, cwJ0, tyJ0_ok, rfl, fun j hj => ?_, WT_of (by decide +kernel) rfl, WT_of (by decide +kernel) rfl, liJ0⟩
  match j, hj with
  | 0, _ => rfl
  | 1, _ => rfl
  | 2, _ => rfl
  | 3, _ => rfl
set_option maxHeartbeats 4000000 in
theorem t_toS (h : AH) {b v n mm : Nat} (B : SBp h b v n mm) : CT la D cA B0 pa yJ4_toString_0e30d cJ4_toString_0e30d 1 (some (.object "java/lang/String")) (rmD 5 2 (4 + n)) [.ref b] h (StrN h n) := by
  refine CT_of (by decide +kernel) (Nat.le_of_ble_eq_true rfl) ?_
  intro p e s m args below meth c X E hr hlk hnm
  have dk : ∀ {pc : Nat} {q : Instr × Nat}, lkd DJ4_toString_0e30d pc = some q → decode cJ4_toString_0e30d pc = .ok q := lkd_ok DJ4_toString_0e30d_ok
  obtain ⟨t0, bs, hb, hv, hl, hf, hnm2, hm⟩ := id B
  refine new_ok X ncJ4_18 (dk rfl) (Nat.le_of_ble_eq_true rfl) (by show 0 + 4 ≤ 4 + n; omega) (fun o ho0 hBo => ?_)
  have hob : b ≠ o := fun z => by rw [z, ho0] at hb; cases hb
  have hov : v ≠ o := fun z => by rw [z, ho0] at hv; cases hv
  have B1 : SBp (hup h o (0, [.null, .int 0, .int 0, .int 0])) b v n mm := ⟨t0, bs, by rw [hup_ne _ _ hob]; exact hb, by rw [hup_ne _ _ hov]; exact hv, hl, hf, hnm2, hm⟩
  iterate 2 refine fst1_ok X (dk rfl) rfl ?_
  refine callI_ok (av := [.ref b]) (r := [.ref o]) X E (t_ini2 _ B1 (hup_self _ _ _)) lkJ0_init_81219 mlJ4_137 lmJ0_init_81219 rfl ⟨Nat.le_of_ble_eq_true rfl, Nat.le_of_ble_eq_true rfl⟩ ⟨Nat.le_of_ble_eq_true rfl, by show 0 + 4 + n ≤ 4 + n; omega⟩ (Nat.le_of_ble_eq_true rfl) (dk rfl) ?_
  rintro _ h1 ⟨rfl, va, bs2, g1, g2, g3, g4, g5, g6⟩
  refine reta_ok X hr hlk (Or.inl ⟨_, rfl⟩) (Or.inr ⟨_, rfl⟩) (dk rfl) ⟨o, va, rfl, ⟨_, _, bs2, g1, g2, g3, g4⟩, ho0, ?_, fun a c g7 => ?_⟩ (Nat.le_of_ble_eq_true rfl) (by show 0 + 4 + n ≤ 4 + n; omega)
  · rw [hup_ne _ _ (fun z => by rw [z, hup_self] at g5; cases g5)] at g5
    exact g5
  · have hne : a ≠ o := fun z => by rw [z, ho0] at g7; cases g7
    exact g6 a c hne (by rw [hup_ne _ _ hne]; exact g7)
set_option maxHeartbeats 4000000 in
theorem t_asb (h : AH) {o : Nat} {t0 : Value} (ho : h o = some (1, [.null, .int 0, t0, .int 0])) : CT la D cA B0 pa yJ5_init_d00df cJ5_init_d00df 2 none (rmD 1 1 16) [.ref o, vI 16] h (fun r h' => r = none ∧ ∃ v, SBp h' o v 0 16 ∧ h v = none ∧ ∀ (a : Nat) (c : AC), a ≠ o → h a = some c → h' a = some c) := by
  refine CT_of (by decide +kernel) (Nat.le_of_ble_eq_true rfl) ?_
  intro p e s m args below meth c X E hr hlk hnm
  have dk : ∀ {pc : Nat} {q : Instr × Nat}, lkd DJ5_init_d00df pc = some q → decode cJ5_init_d00df pc = .ok q := lkd_ok DJ5_init_d00df_ok
  refine fst1_ok X (dk rfl) rfl ?_
  refine obj_ok X ml5_objB (dk rfl) (Nat.le_of_ble_eq_true rfl) (Nat.le_of_ble_eq_true rfl) (Nat.le_of_ble_eq_true rfl) ?_
  refine getsC_ok X E glJ5_18 (dk rfl) ?_
  refine br_ok X (dk rfl) rfl (show ((7 : Nat) : Int) + 18 = ((25 : Nat) : Int) from rfl) (fun q => absurd q (by decide)) (fun _ => ?_)
  iterate 2 refine fst1_ok X (dk rfl) rfl ?_
  refine newab_ok (j := 16) X (dk rfl) (by omega) (Nat.le_of_ble_eq_true rfl) (Nat.le_of_ble_eq_true rfl) (fun q hq hBq => ?_)
  have hoq : o ≠ q := fun z => by rw [z, hq] at ho; cases ho
  refine putfI_ok X flJ5_15 ftJ4_0 rfl rfl (dk rfl) (by rw [hup_ne _ _ hoq]; exact ho) (Nat.le_of_ble_eq_true rfl) ?_
  iterate 2 refine fst1_ok X (dk rfl) rfl ?_
  refine putfI_ok X flJ5_22 ftJ4_1 rfl rfl (dk rfl) (hup_self _ _ _) (Nat.le_of_ble_eq_true rfl) ?_
  refine br_ok X (dk rfl) rfl (show ((22 : Nat) : Int) + 16 = ((38 : Nat) : Int) from rfl) (fun _ => ?_) (fun q => absurd trivial q)
  refine retv_ok X hr hlk (dk rfl) ⟨rfl, q, ⟨t0, List.replicate 16 0, hup_self _ _ _, by rw [hup_ne _ _ hoq.symm, hup_ne _ _ hoq.symm, hup_self], rfl, BF_zero _, Nat.zero_le _, by omega⟩, hq, fun a c g1 g2 => ?_⟩ (Nat.le_of_ble_eq_true rfl) (Nat.le_of_ble_eq_true rfl)
  rw [hup_ne _ _ g1, hup_ne _ _ g1, hup_ne _ _ (fun z => by rw [z, hq] at g2; cases g2)]
  exact g2
theorem t_sb (h : AH) {o : Nat} {t0 : Value} (ho : h o = some (1, [.null, .int 0, t0, .int 0])) : CT la D cA B0 pa yJ4_init_da8c8 cJ4_init_da8c8 1 none (rmD 2 1 16) [.ref o] h (fun r h' => r = none ∧ ∃ v, SBp h' o v 0 16 ∧ h v = none ∧ ∀ (a : Nat) (c : AC), a ≠ o → h a = some c → h' a = some c) := by
  refine CT_of (by decide +kernel) (Nat.le_of_ble_eq_true rfl) ?_
  intro p e s m args below meth c X E hr hlk hnm
  have dk : ∀ {pc : Nat} {q : Instr × Nat}, lkd DJ4_init_da8c8 pc = some q → decode cJ4_init_da8c8 pc = .ok q := lkd_ok DJ4_init_da8c8_ok
  iterate 2 refine fst1_ok X (dk rfl) rfl ?_
  rw [show (Int8.ofInt 16).toInt32 = nI 16 by decide +kernel]
  refine callI_ok (av := [vI 16]) (r := []) X E (t_asb h ho) lkJ5_init_d00df mlJ4_1 lmJ5_init_d00df rfl ⟨Nat.le_of_ble_eq_true rfl, Nat.le_of_ble_eq_true rfl⟩ ⟨Nat.le_of_ble_eq_true rfl, Nat.le_of_ble_eq_true rfl⟩ (Nat.le_of_ble_eq_true rfl) (dk rfl) ?_
  rintro _ h1 ⟨rfl, P1⟩
  exact retv_ok X hr hlk (dk rfl) ⟨rfl, P1⟩ (Nat.le_of_ble_eq_true rfl) (Nat.le_of_ble_eq_true rfl)
theorem t_slat (h : AH) {sa nn : Nat} (S : StrA D h sa nn) : CT la D cA B0 pa yJ0_isLatin1_aae02 cJ0_isLatin1_aae02 1 (some .boolean) (rmD 0 0 0) [.ref sa] h (fun r h' => r = some (.int 1) ∧ h' = h) := by
  refine CT_of (by decide +kernel) (Nat.le_of_ble_eq_true rfl) ?_
  intro p e s m args below meth c X E hr hlk hnm
  have dk : ∀ {pc : Nat} {q : Instr × Nat}, lkd DJ0_isLatin1_aae02 pc = some q → decode cJ0_isLatin1_aae02 pc = .ok q := lkd_ok DJ0_isLatin1_aae02_ok
  obtain ⟨va, hs⟩ := S
  refine getsC_ok X E glJ0_38 (dk rfl) ?_
  refine br_ok X (dk rfl) rfl (show ((3 : Nat) : Int) + 14 = ((17 : Nat) : Int) from rfl) (fun q => absurd q (by decide)) (fun _ => ?_)
  refine fst1_ok X (dk rfl) rfl ?_
  refine strK_ok X E hs (dk rfl) ?_
  refine br_ok X (dk rfl) rfl (show ((10 : Nat) : Int) + 7 = ((17 : Nat) : Int) from rfl) (fun q => absurd rfl q) (fun _ => ?_)
  refine fst1_ok X (dk rfl) rfl ?_
  refine br_ok X (dk rfl) rfl (show ((14 : Nat) : Int) + 4 = ((18 : Nat) : Int) from rfl) (fun _ => ?_) (fun q => absurd trivial q)
  exact reti_ok X hr hlk rfl (dk rfl) ⟨rfl, rfl⟩ (Nat.le_of_ble_eq_true rfl) (Nat.le_of_ble_eq_true rfl)
theorem t_pciN (h : AH) {j nn : Nat} (hj : j < nn) (hn : nn < 2 ^ 20) : CT la D cA B0 pa yJ3_checkIndex_8e157 cJ3_checkIndex_8e157 3 (some .int) (rmD 0 0 0) [vI j, vI nn, .null] h (fun r h' => r = some (vI j) ∧ h' = h) := by
  refine CT_of (by decide +kernel) (Nat.le_of_ble_eq_true rfl) ?_
  intro p e s m args below meth c X E hr hlk hnm
  have dk : ∀ {pc : Nat} {q : Instr × Nat}, lkd DJ3_checkIndex_8e157 pc = some q → decode cJ3_checkIndex_8e157 pc = .ok q := lkd_ok DJ3_checkIndex_8e157_ok
  refine fst1_ok X (dk rfl) rfl ?_
  refine br_ok X (dk rfl) rfl (show ((1 : Nat) : Int) + 8 = ((9 : Nat) : Int) from rfl) (fun q => absurd q (nI_pos (by omega))) (fun _ => ?_)
  iterate 2 refine fst1_ok X (dk rfl) rfl ?_
  refine br_ok X (dk rfl) rfl (show ((6 : Nat) : Int) + 10 = ((16 : Nat) : Int) from rfl) (fun _ => ?_) (fun q => absurd ((nI_ltI (by omega) (by omega)).mpr hj) q)
  refine fst1_ok X (dk rfl) rfl ?_
  exact reti_ok X hr hlk rfl (dk rfl) ⟨rfl, rfl⟩ (Nat.le_of_ble_eq_true rfl) (Nat.le_of_ble_eq_true rfl)
theorem t_pciR (h : AH) {j nn : Nat} (hj : j < nn) (hn : nn < 2 ^ 20) (t : Nat) : CT la D cA B0 pa yJ3_checkIndex_8e157 cJ3_checkIndex_8e157 3 (some .int) (rmD 0 0 0) [vI j, vI nn, .ref t] h (fun r h' => r = some (vI j) ∧ h' = h) := by
  refine CT_of (by decide +kernel) (Nat.le_of_ble_eq_true rfl) ?_
  intro p e s m args below meth c X E hr hlk hnm
  have dk : ∀ {pc : Nat} {q : Instr × Nat}, lkd DJ3_checkIndex_8e157 pc = some q → decode cJ3_checkIndex_8e157 pc = .ok q := lkd_ok DJ3_checkIndex_8e157_ok
  refine fst1_ok X (dk rfl) rfl ?_
  refine br_ok X (dk rfl) rfl (show ((1 : Nat) : Int) + 8 = ((9 : Nat) : Int) from rfl) (fun q => absurd q (nI_pos (by omega))) (fun _ => ?_)
  iterate 2 refine fst1_ok X (dk rfl) rfl ?_
  refine br_ok X (dk rfl) rfl (show ((6 : Nat) : Int) + 10 = ((16 : Nat) : Int) from rfl) (fun _ => ?_) (fun q => absurd ((nI_ltI (by omega) (by omega)).mpr hj) q)
  refine fst1_ok X (dk rfl) rfl ?_
  exact reti_ok X hr hlk rfl (dk rfl) ⟨rfl, rfl⟩ (Nat.le_of_ble_eq_true rfl) (Nat.le_of_ble_eq_true rfl)
theorem t_ci (h : AH) {j nn : Nat} (hj : j < nn) (hn : nn < 2 ^ 20) : CT la D cA B0 pa yJ0_checkIndex_df160 cJ0_checkIndex_df160 2 none (rmD 1 0 0) [vI j, vI nn] h (fun r h' => r = none ∧ h' = h) := by
  refine CT_of (by decide +kernel) (Nat.le_of_ble_eq_true rfl) ?_
  intro p e s m args below meth c X E hr hlk hnm
  have dk : ∀ {pc : Nat} {q : Instr × Nat}, lkd DJ0_checkIndex_df160 pc = some q → decode cJ0_checkIndex_df160 pc = .ok q := lkd_ok DJ0_checkIndex_df160_ok
  iterate 2 refine fst1_ok X (dk rfl) rfl ?_
  refine getsF_ok X E glJ0_1053 (dk rfl) (fun f hf => ?_)
  rcases hf with rfl | ⟨t, rfl⟩
  · refine callS_ok (av := [vI j, vI nn, .null]) (r := []) X E (t_pciN h hj hn) lkJ3_checkIndex_8e157 mlJ0_1059 lsJ3_checkIndex_8e157 ⟨Nat.le_of_ble_eq_true rfl, Nat.le_of_ble_eq_true rfl⟩ ⟨Nat.le_of_ble_eq_true rfl, Nat.le_of_ble_eq_true rfl⟩ (Nat.le_of_ble_eq_true rfl) (dk rfl) ?_
    rintro _ _ ⟨rfl, rfl⟩
    refine fst1_ok X (dk rfl) rfl ?_
    exact retv_ok X hr hlk (dk rfl) ⟨rfl, rfl⟩ (Nat.le_of_ble_eq_true rfl) (Nat.le_of_ble_eq_true rfl)
  · refine callS_ok (av := [vI j, vI nn, .ref t]) (r := []) X E (t_pciR h hj hn t) lkJ3_checkIndex_8e157 mlJ0_1059 lsJ3_checkIndex_8e157 ⟨Nat.le_of_ble_eq_true rfl, Nat.le_of_ble_eq_true rfl⟩ ⟨Nat.le_of_ble_eq_true rfl, Nat.le_of_ble_eq_true rfl⟩ (Nat.le_of_ble_eq_true rfl) (dk rfl) ?_
    rintro _ _ ⟨rfl, rfl⟩
    refine fst1_ok X (dk rfl) rfl ?_
    exact retv_ok X hr hlk (dk rfl) ⟨rfl, rfl⟩ (Nat.le_of_ble_eq_true rfl) (Nat.le_of_ble_eq_true rfl)
set_option maxHeartbeats 2000000 in
theorem t_lchar (h : AH) {i va : Nat} (hi : i < 5) (hva : va = D.2 51 i) {j : Nat} (hj : j < scL.getD i 0) : CT la D cA B0 pa yJ1_charAt_3b067 cJ1_charAt_3b067 2 (some .char) (rmD 2 0 0) [.ref va, vI j] h (fun r h' => (∃ c0 : Nat, c0 < 256 ∧ r = some (vI c0)) ∧ h' = h) := by
  refine CT_of (by decide +kernel) (Nat.le_of_ble_eq_true rfl) ?_
  intro p e s m args below meth c X E hr hlk hnm
  have dk : ∀ {pc : Nat} {q : Instr × Nat}, lkd DJ1_charAt_3b067 pc = some q → decode cJ1_charAt_3b067 pc = .ok q := lkd_ok DJ1_charAt_3b067_ok
  have hs : StrC D (D.2 50 i) va (scL.getD i 0) ∨ StrH h (D.2 50 i) va (scL.getD i 0) := Or.inl ⟨i, hi, rfl, hva, rfl⟩
  have hL := scL_le i hi
  iterate 2 refine fst1_ok X (dk rfl) rfl ?_
  refine strL_ok X E hs (dk rfl) ?_
  refine callS_ok (av := [vI j, vI (scL.getD i 0)]) (r := []) X E (t_ci h hj (by omega)) lkJ0_checkIndex_df160 mlJ1_9 lsJ0_checkIndex_df160 ⟨Nat.le_of_ble_eq_true rfl, Nat.le_of_ble_eq_true rfl⟩ ⟨Nat.le_of_ble_eq_true rfl, Nat.le_of_ble_eq_true rfl⟩ (Nat.le_of_ble_eq_true rfl) (dk rfl) ?_
  rintro _ _ ⟨rfl, rfl⟩
  iterate 2 refine fst1_ok X (dk rfl) rfl ?_
  subst hva
  refine lld_ok X E hi hj (dk rfl) (fun x => ?_)
  iterate 2 refine fst1_ok X (dk rfl) rfl ?_
  obtain ⟨c0, hc0, e0⟩ := andc x
  rw [e0]
  refine fst1_ok X (dk rfl) rfl ?_
  refine reti_ok X hr hlk ?_ (dk rfl) ⟨⟨c0, hc0, ?_⟩, rfl⟩ (Nat.le_of_ble_eq_true rfl) (Nat.le_of_ble_eq_true rfl)
  · rw [i2cN hc0]; exact nchar hc0
  · rw [i2cN hc0]; rfl
theorem t_char (h : AH) {i : Nat} (hi : i < 5) {j : Nat} (hj : j < scL.getD i 0) : CT la D cA B0 pa yJ0_charAt_5068e cJ0_charAt_5068e 2 (some .char) (rmD 3 0 0) [.ref (D.2 50 i), vI j] h (fun r h' => (∃ c0 : Nat, c0 < 256 ∧ r = some (vI c0)) ∧ h' = h) := by
  refine CT_of (by decide +kernel) (Nat.le_of_ble_eq_true rfl) ?_
  intro p e s m args below meth c X E hr hlk hnm
  have dk : ∀ {pc : Nat} {q : Instr × Nat}, lkd DJ0_charAt_5068e pc = some q → decode cJ0_charAt_5068e pc = .ok q := lkd_ok DJ0_charAt_5068e_ok
  have hs : StrC D (D.2 50 i) (D.2 51 i) (scL.getD i 0) ∨ StrH h (D.2 50 i) (D.2 51 i) (scL.getD i 0) := Or.inl ⟨i, hi, rfl, rfl, rfl⟩
  have S : StrA D h (D.2 50 i) (scL.getD i 0) := ⟨_, hs⟩
  refine fst1_ok X (dk rfl) rfl ?_
  refine callT_ok (av := []) (r := []) X E hs (t_slat h S) lkJ0_isLatin1_aae02 mlJ0_492 lmJ0_isLatin1_aae02 lvJ0_isLatin1_aae02 ⟨Nat.le_of_ble_eq_true rfl, Nat.le_of_ble_eq_true rfl⟩ ⟨Nat.le_of_ble_eq_true rfl, Nat.le_of_ble_eq_true rfl⟩ (Nat.le_of_ble_eq_true rfl) (dk rfl) ?_
  rintro _ _ ⟨rfl, rfl⟩
  refine br_ok X (dk rfl) rfl (show ((4 : Nat) : Int) + 12 = ((16 : Nat) : Int) from rfl) (fun q => absurd q (by decide)) (fun _ => ?_)
  refine fst1_ok X (dk rfl) rfl ?_
  refine strV_ok X E hs (dk rfl) ?_
  refine fst1_ok X (dk rfl) rfl ?_
  refine callS_ok (av := [.ref (D.2 51 i), vI j]) (r := []) X E (t_lchar _ hi rfl hj) lkJ1_charAt_3b067 mlJ0_495 lsJ1_charAt_3b067 ⟨Nat.le_of_ble_eq_true rfl, Nat.le_of_ble_eq_true rfl⟩ ⟨Nat.le_of_ble_eq_true rfl, Nat.le_of_ble_eq_true rfl⟩ (Nat.le_of_ble_eq_true rfl) (dk rfl) ?_
  rintro _ _ ⟨⟨c0, hc0, rfl⟩, rfl⟩
  exact reti_ok X hr hlk (nchar hc0) (dk rfl) ⟨⟨c0, hc0, rfl⟩, rfl⟩ (Nat.le_of_ble_eq_true rfl) (Nat.le_of_ble_eq_true rfl)
end M98h
end U98htx3
section U98itx4
/-! texts of the reference and of the class (printed by wip/p40/genU.py) -/
theorem ncB (own : String) (idx : Nat) (h1 : Cond.classLink own idx RJ4 ∈ WT) (h2 : Cond.instantiable RJ4 4 ∈ WT) : NC own idx 1 [.null, .int 0, .int 0, .int 0] := by
  refine ⟨RJ4, TJ4, 4, tyJ4, rfl, cwJ4, tyJ4_ok, rfl, fun j hj => ?_, h1, h2, liJ4⟩
  match j, hj with
  | 0, _ => rfl
  | 1, _ => rfl
  | 2, _ => rfl
  | 3, _ => rfl
set_option maxRecDepth 100000 in
theorem insJ4 : Cond.instantiable RJ4 4 ∈ WT := WT_of (tbw_4 (List.mem_of_getElem? (i := 142) rfl)) rfl
set_option maxRecDepth 100000 in
theorem ncX10_173 : NC RX10 173 1 [.null, .int 0, .int 0, .int 0] := ncB _ _ (WT_of (by decide +kernel) rfl) insJ4
set_option maxRecDepth 100000 in
theorem ncX6_332 : NC RX6 332 1 [.null, .int 0, .int 0, .int 0] := ncB _ _ (WT_of (by decide +kernel) rfl) insJ4
/-- a builder that is new since h0, all of h0 stays -/
def SBst (h0 h : AH) (b nn : Nat) : Prop := ∃ v mm, SBp h b v nn mm ∧ h0 b = none ∧ h0 v = none ∧ Ext h0 h
/-- a builder and a text that isn't its row -/
def SBss (D : va_G) (h0 h : AH) (b nn sa n2 : Nat) : Prop := ∃ v mm, SBp h b v nn mm ∧ h0 b = none ∧ h0 v = none ∧ Ext h0 h ∧ StrS D h sa v n2
theorem SBst.ext {h0 h h2 : AH} {b nn : Nat} (S : SBst h0 h b nn) (E : Ext h h2) : SBst h0 h2 b nn := by
  obtain ⟨v, mm, ⟨t, bs, b1, b2, b3⟩, h1, h3, h4⟩ := S
  exact ⟨v, mm, ⟨t, bs, E _ _ b1, E _ _ b2, b3⟩, h1, h3, h4.trans E⟩
theorem SBst.base {h0 h : AH} {b nn : Nat} (S : SBst h0 h b nn) : Ext h0 h := by
  obtain ⟨v, mm, -, -, -, h4⟩ := S
  exact h4
theorem SBst.con {D : va_G} {h0 h : AH} {b nn : Nat} (S : SBst h0 h b nn) (i : Nat) (hi : i < 5) : SBss D h0 h b nn (D.2 50 i) (scL.getD i 0) := by
  obtain ⟨v, mm, B, h1, h3, h4⟩ := S
  exact ⟨v, mm, B, h1, h3, h4, D.2 51 i, Or.inl ⟨i, hi, rfl, rfl, rfl⟩⟩
theorem SBst.new {D : va_G} {h0 h h2 : AH} {b nn n2 sa : Nat} (S : SBst h0 h b nn) (P : StrN h n2 (some (.ref sa)) h2) : SBss D h0 h2 b nn sa n2 := by
  obtain ⟨sa', va, e, p1, p2, p3, p4⟩ := P
  cases e
  obtain ⟨v, mm, B, h1, h3, h4⟩ := S
  have hv := B.tov
  obtain ⟨t, bs, b1, b2, b3⟩ := B
  exact ⟨v, mm, ⟨t, bs, p4 _ _ b1, p4 _ _ b2, b3⟩, h1, h3, h4.trans p4, va, Or.inr ⟨p1, fun z => hv (by rw [← z]; exact p3)⟩⟩
theorem SBQ.to {B0 : Nat} {h0 h h' : AH} {b v nn n2 mm m2 : Nat} (B : SBp h b v nn mm) (hb : h0 b = none) (hv : h0 v = none) (hE : Ext h0 h) (P : SBQ B0 h b v n2 m2 h') : SBst h0 h' b n2 := by
  obtain ⟨v1, B1, hv1, hk⟩ := P
  refine ⟨v1, m2, B1, hb, ?_, fun a c g => ?_⟩
  · rcases hv1 with w | w
    · rw [w]; exact hv
    · cases e : h0 v1 with
      | none => rfl
      | some c => have := hE _ _ e; rw [w.1] at this; cases this
  · exact hk a c (fun z => by rw [z, hb] at g; cases g) (fun z => by rw [z, hv] at g; cases g) (hE _ _ g)
theorem Ext.tyg {Γ : TY} {h h' : AH} (E : Ext h h') (I : Tyg Γ h) : Tyg Γ h' := fun a φ g => by
  obtain ⟨c, h1, h2⟩ := I a φ g
  exact ⟨c, E _ _ h1, h2⟩
theorem Ext.ti {Γ : TY} {h h' : AH} (E : Ext h h') (I : Tyg Γ h) : TI Γ h h' := ⟨E.tyg I, fun a c g _ => E a c g⟩
section UB
variable {p : Program} {la : Launch} {e : Env} {R : Room} {s : State} {m : MethodId} {args : Array Value} {below : List Frame} {meth : Method} {c : Code} {Q : State → Prop}
variable {D : va_G} {cA : Nat → ClassId} {B0 pa nL : Nat} {cc : ByteArray} {own : String} {pc k n : Nat} {l : List (Nat × Value)} {r : List Value} {h h0 : AH}
/-- a constant text, wide -/
theorem ldcwT_ok (X : CX p s m args c D cA B0 nL cc own) (E : EN D cA B0 pa s) (i : Nat) {idx : Nat} (hi : i < 5) (ho : own = scO i) (hx : idx = scK i) (hd : decode cc pc = .ok (.ldc_w idx, 3))
    (kk : WS p la e R s m args below meth c Q D cA B0 nL (pc + 3) l (.ref (D.2 50 i) :: r) h k n) : WS p la e R s m args below meth c Q D cA B0 nL pc l r h k n := by
  subst ho
  subst hx
  intro H locs ls hH hls
  intro T hT Y
  obtain ⟨t, a1, b1⟩ := kk H locs ls hH hls T hT Y
  have hZ := E.2.2.2.1.2.2.2.2.2.2.1 i hi
  exact ⟨t, Y.ldcStringW X.1 X.2.2.2.1 (text := scT i) (a := D.2 50 i) hZ.1 hZ.2 (g := F0 m pc ls r) rfl (by rw [X.2.1]; exact hd) t a1, b1⟩
theorem newSB_ok (X : CX p s m args c D cA B0 nL cc own) (E : EN D cA B0 pa s) {i1 i2 : Nat} (hN : NC own i1 1 [.null, .int 0, .int 0, .int 0]) (hl : Cond.methodLink own i2 yJ4_init_da8c8 ∈ WT) (d0 : decode cc pc = .ok (.new i1, 3)) (d3 : decode cc (pc + 3) = .ok (.dup, 1)) (d4 : decode cc (pc + 4) = .ok (.invokespecial i2, 3))
    (hR : 3 ≤ R.frames ∧ 8 + (1 + 11) + 40 * 2 ≤ R.locals) (hf : k + 2 ≤ R.cells ∧ n + 20 ≤ R.slots) (hW : (r.map fun v => v.category).sum ≤ 7)
    (kk : ∀ (b : Nat) (h1 : AH), SBst h h1 b 0 → WS p la e R s m args below meth c Q D cA B0 nL (pc + 7) l (.ref b :: r) h1 (k + 2) (n + 20)) : WS p la e R s m args below meth c Q D cA B0 nL pc l r h k n := by
  refine new_ok X hN d0 (by omega) (by show n + 4 ≤ _; omega) (fun q hq hBq => ?_)
  refine fst1_ok X d3 rfl ?_
  refine callI_ok (av := []) (r := .ref q :: r) X E (t_sb _ (hup_self _ _ _)) lkJ4_init_da8c8 hl lmJ4_init_da8c8 rfl hR ⟨by show k + 1 + 1 ≤ _; omega, by show n + 4 + 16 ≤ _; omega⟩ (by show 1 + (r.map fun v => v.category).sum ≤ 8; omega) d4 ?_
  rintro _ h1 ⟨rfl, v, B, hv, hk⟩
  refine WS.widen (k' := k + 2) (n' := n + 20) (by show k + 1 + 1 ≤ k + 2; omega) (by show n + 4 + 16 ≤ n + 20; omega) (kk q h1 ⟨v, 16, B, hq, ?_, fun a c g => ?_⟩)
  · by_cases z : v = q
    · rw [z, hup_self] at hv; cases hv
    · rw [hup_ne _ _ z] at hv; exact hv
  · have z : a ≠ q := fun z => by rw [z, hq] at g; cases g
    exact hk a c z (by rw [hup_ne _ _ z]; exact g)
theorem appC_ok (X : CX p s m args c D cA B0 nL cc own) (E : EN D cA B0 pa s) {idx b nn c0 N : Nat} (S : SBst h0 h b nn) (hc : c0 < 256) (hn : nn + 1 ≤ N) (hN : N ≤ 400) (hl : Cond.methodLink own idx yJ4_append_cf468 ∈ WT)
    (hR : 6 ≤ R.frames ∧ 8 + (2 + 11) + 40 * 5 ≤ R.locals) (hf : k + 1 ≤ R.cells ∧ n + 2 * N ≤ R.slots) (hW : (r.map fun v => v.category).sum ≤ 8) (hd : decode cc pc = .ok (.invokevirtual idx, 3))
    (kk : ∀ h' : AH, SBst h0 h' b (nn + 1) → WS p la e R s m args below meth c Q D cA B0 nL (pc + 3) l (.ref b :: r) h' (k + 1) (n + 2 * N)) : WS p la e R s m args below meth c Q D cA B0 nL pc l (vI c0 :: .ref b :: r) h k n := by
  obtain ⟨v, mm, B, hb0, hv0, hE⟩ := S
  obtain ⟨t, bs, hb, -⟩ := id B
  refine callV_ok (ci := 1) (T := TJ4) (N := 4) (av := [vI c0]) X E (t_sapp h B hc hn hN) lkJ4_append_cf468 hl lmJ4_append_cf468 lvJ4_append_cf468 hR hf rfl hb hW hd ?_
  rintro _ h1 ⟨rfl, m1, P1⟩
  exact kk h1 (P1.to B hb0 hv0 hE)
theorem appS_ok (X : CX p s m args c D cA B0 nL cc own) (E : EN D cA B0 pa s) {idx b nn sa n2 N : Nat} (S : SBss D h0 h b nn sa n2) (hn : nn + n2 ≤ N) (hN : N ≤ 400) (hl : Cond.methodLink own idx yJ4_append_15ec4 ∈ WT)
    (hR : 6 ≤ R.frames ∧ 8 + (2 + 11) + 40 * 5 ≤ R.locals) (hf : k + 1 ≤ R.cells ∧ n + 2 * N ≤ R.slots) (hW : (r.map fun v => v.category).sum ≤ 8) (hd : decode cc pc = .ok (.invokevirtual idx, 3))
    (kk : ∀ h' : AH, SBst h0 h' b (nn + n2) → WS p la e R s m args below meth c Q D cA B0 nL (pc + 3) l (.ref b :: r) h' (k + 1) (n + 2 * N)) : WS p la e R s m args below meth c Q D cA B0 nL pc l (.ref sa :: .ref b :: r) h k n := by
  obtain ⟨v, mm, B, hb0, hv0, hE, T⟩ := S
  obtain ⟨t, bs, hb, -⟩ := id B
  refine callV_ok (ci := 1) (T := TJ4) (N := 4) (av := [.ref sa]) X E (t_sapps h B T hn hN) lkJ4_append_15ec4 hl lmJ4_append_15ec4 lvJ4_append_15ec4 hR hf rfl hb hW hd ?_
  rintro _ h1 ⟨rfl, m1, P1⟩
  exact kk h1 (P1.to B hb0 hv0 hE)
theorem toS_ok (X : CX p s m args c D cA B0 nL cc own) (E : EN D cA B0 pa s) {idx b nn : Nat} (S : SBst h0 h b nn) (hl : Cond.methodLink own idx yJ4_toString_0e30d ∈ WT)
    (hR : 6 ≤ R.frames ∧ 8 + (1 + 11) + 40 * 5 ≤ R.locals) (hf : k + 2 ≤ R.cells ∧ n + (4 + nn) ≤ R.slots) (hW : (r.map fun v => v.category).sum ≤ 8) (hd : decode cc pc = .ok (.invokevirtual idx, 3))
    (kk : ∀ (sa : Nat) (h' : AH), StrN h0 nn (some (.ref sa)) h' → WS p la e R s m args below meth c Q D cA B0 nL (pc + 3) l (.ref sa :: r) h' (k + 2) (n + (4 + nn))) : WS p la e R s m args below meth c Q D cA B0 nL pc l (.ref b :: r) h k n := by
  obtain ⟨v, mm, B, hb0, hv0, hE⟩ := S
  obtain ⟨t, bs, hb, -⟩ := id B
  refine callV_ok (ci := 1) (T := TJ4) (N := 4) (av := []) X E (t_toS h B) lkJ4_toString_0e30d hl lmJ4_toString_0e30d lvJ4_toString_0e30d hR hf rfl hb hW hd ?_
  rintro _ h1 ⟨sa, va, rfl, p1, p2, p3, p4⟩
  have nw : ∀ q : Nat, h q = none → h0 q = none := fun q hq => by
    cases e : h0 q with
    | none => rfl
    | some c => have := hE _ _ e; rw [hq] at this; cases this
  exact kk sa h1 ⟨sa, va, rfl, p1, nw _ p2, nw _ p3, hE.trans p4⟩
end UB
section M98i
variable {la : Launch} {D : va_G} {cA : Nat → ClassId} {B0 pa : Nat}
set_option maxHeartbeats 16000000 in
theorem c_textOf {a : Nat} {xs : List Nat} (hn : xs.length ≤ 16) (hx : ∀ x ∈ xs, okL x) : ∀ (f at' kk : Nat), endL 1 (xs.drop at') = some kk → kk ≤ f → ∀ h : AH, h a = some (IA xs) → CT la D cA B0 pa yX10_textOf cX10_textOf 6 (some (.object "java/lang/String")) (rmD (7 + f) (8 * kk - 2) (600 * kk - 256)) [.ref a, vI at'] h (fun v h' => ∃ nn, nn + 1 ≤ 4 * kk ∧ StrN h nn v h') := by
  intro f
  induction f with
  | zero => intro at' kk hk hkf; have := endL_pos (n := 0) hk; omega
  | succ f ihf =>
    intro at' kk hk hkf h ha
    refine CT_of (by decide +kernel) (Nat.le_of_ble_eq_true rfl) ?_
    intro p e s m args below meth c X E hr hlk hnm
    have dk : ∀ {pc : Nat} {q : Instr × Nat}, lkd DX10_textOf pc = some q → decode cX10_textOf pc = .ok q := lkd_ok DX10_textOf_ok
    have hat : at' < xs.length := by
      rcases Nat.lt_or_ge at' xs.length with q | q
      · exact q
      · rw [List.drop_eq_nil_of_le q] at hk; simp [endL] at hk
    obtain ⟨x, hx1⟩ : ∃ x, xs[at']? = some x := ⟨xs[at']'hat, by simp⟩
    have hx2 := (hx x (List.mem_of_getElem? hx1)).lt
    have hlt : ∀ x ∈ xs, x < 2 ^ 10 := fun x h => by have := (hx x h).lt; omega
    have hk' := hk
    rw [drop_cons hx1] at hk'
    simp only [endL, Option.map_eq_some_iff, Nat.zero_add] at hk'
    obtain ⟨k0, hk0, rfl⟩ := hk'
    have hle := endL_le hk
    rw [List.length_drop] at hle
    have hpF : pF x ≤ 3 := by unfold pF; split <;> omega
    iterate 2 refine fst1_ok X (dk rfl) rfl ?_
    refine ald_ok X (Or.inl ⟨rfl, rfl⟩) (dk rfl) ha (inA_nI (by omega) (IA_get hx1)) ?_
    iterate 3 refine fst1_ok X (dk rfl) rfl ?_
    refine br_ok X (dk rfl) rfl (show ((7 : Nat) : Int) + 27 = ((34 : Nat) : Int) from rfl) (fun c1 => ?_) (fun c2 => ?_)
    · rw [nI_10] at c1
      have hx10 : 10 ≤ x := (nI_leI (by omega) (by omega)).mp c1
      refine newSB_ok X E ncX10_173 mlX10_175 (dk rfl) (dk rfl) (dk rfl) ⟨by show 3 ≤ 7 + (f + 1); omega, by show 8 + (1 + 11) + 40 * 2 ≤ 40 * (7 + (f + 1)); omega⟩ ⟨by show 0 + 2 ≤ 8 * (k0 + 1) - 2; omega, by show 0 + 20 ≤ 600 * (k0 + 1) - 256; omega⟩ (Nat.le_of_ble_eq_true rfl) (fun b h1 S1 => ?_)
      have loop : ∀ (nd pl jj j nn : Nat) (hc : AH), endL nd (xs.drop pl) = some jj → pl + jj = at' + (k0 + 1) → at' < pl → j + nd = pF x → nn ≤ 1 + 4 * (pl - at' - 1) → SBst h hc b nn → ∀ (l : List (Nat × Value)), lsel l [5, 4, 3, 2, 0, 1] = [(5, vI j), (4, vI pl), (3, .ref b), (2, vI x), (0, .ref a), (1, vI at')] → WR p la e (rmD (7 + (f + 1)) (8 * (k0 + 1) - 2) (600 * (k0 + 1) - 256)) s m args below meth c D cA B0 6 (fun v h' => ∃ nn, nn + 1 ≤ 4 * (k0 + 1) ∧ StrN h nn v h') 98 l [] hc (3 + 8 * (pl - at' - 1)) (148 + 600 * (pl - at' - 1)) := by
        intro nd
        induction nd with
        | zero =>
          intro pl jj j nn hc hj hpj hpl hjn hnn S l hl
          simp only [endL, Option.some.injEq] at hj
          subst hj
          have hjx : j = pF x := by omega
          subst hjx
          refine WS.sel [5, 4, 3, 2, 0, 1] hl ?_
          iterate 2 refine fst1_ok X (dk rfl) rfl ?_
          refine callS_ok (av := [vI x]) (r := [vI (pF x)]) X E (c_parts hc (by omega)) lkX10_parts mlX10_32 lsX10_parts ⟨by show 0 + 1 ≤ 7 + (f + 1); omega, by show 8 + (1 + 11) + 40 * 0 ≤ 40 * (7 + (f + 1)); omega⟩ ⟨by show _ + 0 ≤ 8 * (k0 + 1) - 2; omega, by show _ + 0 ≤ 600 * (k0 + 1) - 256; omega⟩ (Nat.le_of_ble_eq_true rfl) (dk rfl) ?_
          rintro v h2 ⟨rfl, rfl⟩
          refine br_ok X (dk rfl) rfl (show ((104 : Nat) : Int) + 43 = ((147 : Nat) : Int) from rfl) (fun _ => ?_) (fun q => absurd (Int32.le_refl _) q)
          have fin : ∀ i : Nat, (i = 3 ∨ i = 0) → ∀ (l : List (Nat × Value)), WR p la e (rmD (7 + (f + 1)) (8 * (k0 + 1) - 2) (600 * (k0 + 1) - 256)) s m args below meth c D cA B0 6 (fun v h' => ∃ nn, nn + 1 ≤ 4 * (k0 + 1) ∧ StrN h nn v h') 162 l [.ref (D.2 50 i), .ref b] h2 (3 + 8 * (pl - at' - 1)) (148 + 600 * (pl - at' - 1)) := by
            intro i hi l
            have hi5 : i < 5 := by omega
            have hs1 : scL.getD i 0 ≤ 1 := by rcases hi with rfl | rfl <;> decide
            refine appS_ok (N := 64) X E (S.con i hi5) (by omega) (by omega) mlX10_178 ⟨by show 6 ≤ 7 + (f + 1); omega, by show 8 + (2 + 11) + 40 * 5 ≤ 40 * (7 + (f + 1)); omega⟩ ⟨by show _ + 1 ≤ 8 * (k0 + 1) - 2; omega, by show _ + 2 * 64 ≤ 600 * (k0 + 1) - 256; omega⟩ (Nat.le_of_ble_eq_true rfl) (dk rfl) (fun h3 S3 => ?_)
            refine toS_ok X E S3 mlX10_185 ⟨by show 6 ≤ 7 + (f + 1); omega, by show 8 + (1 + 11) + 40 * 5 ≤ 40 * (7 + (f + 1)); omega⟩ ⟨by show _ + 1 + 2 ≤ 8 * (k0 + 1) - 2; omega, by show _ + 2 * 64 + (4 + (nn + scL.getD i 0)) ≤ 600 * (k0 + 1) - 256; omega⟩ (Nat.le_of_ble_eq_true rfl) (dk rfl) (fun sa h4 S4 => ?_)
            exact reta_ok X hr hlk (Or.inl ⟨_, rfl⟩) (Or.inr ⟨_, rfl⟩) (dk rfl) ⟨_, by omega, S4⟩ (by show _ + 1 + 2 ≤ 8 * (k0 + 1) - 2; omega) (by show _ + 2 * 64 + (4 + (nn + scL.getD i 0)) ≤ 600 * (k0 + 1) - 256; omega)
          iterate 2 refine fst1_ok X (dk rfl) rfl ?_
          refine callS_ok (av := [vI x]) (r := [.ref b]) X E (c_parts h2 (by omega)) lkX10_parts mlX10_32 lsX10_parts ⟨by show 0 + 1 ≤ 7 + (f + 1); omega, by show 8 + (1 + 11) + 40 * 0 ≤ 40 * (7 + (f + 1)); omega⟩ ⟨by show _ + 0 + 0 ≤ 8 * (k0 + 1) - 2; omega, by show _ + 0 + 0 ≤ 600 * (k0 + 1) - 256; omega⟩ (Nat.le_of_ble_eq_true rfl) (dk rfl) ?_
          rintro v h3 ⟨rfl, rfl⟩
          refine br_ok X (dk rfl) rfl (show ((152 : Nat) : Int) + 8 = ((160 : Nat) : Int) from rfl) (fun c3 => ?_) (fun c3 => ?_)
          · refine ldcT_ok X E 0 (by decide) rfl rfl (dk rfl) ?_
            exact fin 0 (Or.inr rfl) _
          · refine ldcT_ok X E 3 (by decide) rfl rfl (dk rfl) ?_
            refine br_ok X (dk rfl) rfl (show ((157 : Nat) : Int) + 5 = ((162 : Nat) : Int) from rfl) (fun _ => ?_) (fun q => absurd trivial q)
            exact fin 3 (Or.inl rfl) _
        | succ nd ih =>
          intro pl jj j nn hc hj hpj hpl hjn hnn S l hl
          rw [show nd + 1 = 1 + nd by omega] at hj
          obtain ⟨k1, hk1, hk1j, hk2⟩ := endL_add _ 1 nd jj hj
          rw [List.drop_drop] at hk2
          have hk1p := endL_pos (n := 0) hk1
          have hple := endL_le hk1
          rw [List.length_drop] at hple
          have hplt : pl < xs.length := by
            rcases Nat.lt_or_ge pl xs.length with q | q
            · exact q
            · omega
          have hca := S.base _ _ ha
          refine WS.sel [5, 4, 3, 2, 0, 1] hl ?_
          iterate 2 refine fst1_ok X (dk rfl) rfl ?_
          refine callS_ok (av := [vI x]) (r := [vI j]) X E (c_parts hc (by omega)) lkX10_parts mlX10_32 lsX10_parts ⟨by show 0 + 1 ≤ 7 + (f + 1); omega, by show 8 + (1 + 11) + 40 * 0 ≤ 40 * (7 + (f + 1)); omega⟩ ⟨by show _ + 0 ≤ 8 * (k0 + 1) - 2; omega, by show _ + 0 ≤ 600 * (k0 + 1) - 256; omega⟩ (Nat.le_of_ble_eq_true rfl) (dk rfl) ?_
          rintro v hc ⟨rfl, rfl⟩
          refine br_ok X (dk rfl) rfl (show ((104 : Nat) : Int) + 43 = ((147 : Nat) : Int) from rfl) (fun q => absurd q (nI_ge (by omega) (by omega))) (fun _ => ?_)
          iterate 2 refine fst1_ok X (dk rfl) rfl ?_
          have at120 : ∀ i : Nat, (i = 1 ∨ i = 2) → ∀ (l : List (Nat × Value)), lsel l [5, 4, 3, 2, 0, 1] = [(5, vI j), (4, vI pl), (3, .ref b), (2, vI x), (0, .ref a), (1, vI at')] → WR p la e (rmD (7 + (f + 1)) (8 * (k0 + 1) - 2) (600 * (k0 + 1) - 256)) s m args below meth c D cA B0 6 (fun v h' => ∃ nn, nn + 1 ≤ 4 * (k0 + 1) ∧ StrN h nn v h') 120 l [.ref (D.2 50 i), .ref b] hc (3 + 8 * (pl - at' - 1)) (148 + 600 * (pl - at' - 1)) := by
            intro i hi l hl
            have hi5 : i < 5 := by omega
            have hs1 : scL.getD i 0 = 1 := by rcases hi with rfl | rfl <;> rfl
            refine WS.sel [5, 4, 3, 2, 0, 1] hl ?_
            refine appS_ok (N := 64) X E (S.con i hi5) (by omega) (by omega) mlX10_178 ⟨by show 6 ≤ 7 + (f + 1); omega, by show 8 + (2 + 11) + 40 * 5 ≤ 40 * (7 + (f + 1)); omega⟩ ⟨by show _ + 1 ≤ 8 * (k0 + 1) - 2; omega, by show _ + 2 * 64 ≤ 600 * (k0 + 1) - 256; omega⟩ (Nat.le_of_ble_eq_true rfl) (dk rfl) (fun h3 S3 => ?_)
            iterate 2 refine fst1_ok X (dk rfl) rfl ?_
            refine callS_ok (av := [.ref a, vI pl]) (r := [.ref b]) X E (ihf pl k1 hk1 (by omega) h3 (S3.base _ _ ha)) lkX10_textOf mlX10_193 lsX10_textOf ⟨by show 7 + f + 1 ≤ 7 + (f + 1); omega, by show 8 + (6 + 11) + 40 * (7 + f) ≤ 40 * (7 + (f + 1)); omega⟩ ⟨by show _ + 1 + (8 * k1 - 2) ≤ 8 * (k0 + 1) - 2; omega, by show _ + 2 * 64 + (600 * k1 - 256) ≤ 600 * (k0 + 1) - 256; omega⟩ (Nat.le_of_ble_eq_true rfl) (dk rfl) ?_
            rintro v h4 ⟨n4, hn4, P4⟩
            obtain ⟨sa, va, rfl, -⟩ := id P4
            refine appS_ok (N := 64) X E (S3.new P4) (by omega) (by omega) mlX10_178 ⟨by show 6 ≤ 7 + (f + 1); omega, by show 8 + (2 + 11) + 40 * 5 ≤ 40 * (7 + (f + 1)); omega⟩ ⟨by show _ + 1 + (8 * k1 - 2) + 1 ≤ 8 * (k0 + 1) - 2; omega, by show _ + 2 * 64 + (600 * k1 - 256) + 2 * 64 ≤ 600 * (k0 + 1) - 256; omega⟩ (Nat.le_of_ble_eq_true rfl) (dk rfl) (fun h5 S5 => ?_)
            iterate 3 refine fst1_ok X (dk rfl) rfl ?_
            refine callS_ok (av := [.ref a, vI pl]) (r := []) X E (c_end h5 (S5.base _ _ ha) hlt (by omega) hk1) lkX10_end mlX10_36 lsX10_end ⟨by show 1 + 1 ≤ 7 + (f + 1); omega, by show 8 + (4 + 11) + 40 * 1 ≤ 40 * (7 + (f + 1)); omega⟩ ⟨by show _ + 1 + (8 * k1 - 2) + 1 + 0 ≤ 8 * (k0 + 1) - 2; omega, by show _ + 2 * 64 + (600 * k1 - 256) + 2 * 64 + 0 ≤ 600 * (k0 + 1) - 256; omega⟩ (Nat.le_of_ble_eq_true rfl) (dk rfl) ?_
            rintro v h6 ⟨rfl, rfl⟩
            iterate 2 refine fst1_ok X (dk rfl) rfl ?_
            refine br_ok X (dk rfl) rfl (show ((144 : Nat) : Int) + (-46) = ((98 : Nat) : Int) from rfl) (fun _ => ?_) (fun q => absurd trivial q)
            have f2 : Value.int (nI j + Int32.ofInt 1) = vI (j + 1) := congrArg Value.int (by rw [nI_1', nI_add])
            refine WS.sel (l' := [(5, vI (j + 1)), (4, vI (pl + k1)), (3, .ref b), (2, vI x), (0, .ref a), (1, vI at')]) [5, 4, 3, 2, 0, 1] (by rw [← f2]; rfl) ?_
            refine WS.widen (k' := 3 + 8 * (pl + k1 - at' - 1)) (n' := 148 + 600 * (pl + k1 - at' - 1)) (by show _ + 1 + (8 * k1 - 2) + 1 + 0 ≤ _; omega) (by show _ + 2 * 64 + (600 * k1 - 256) + 2 * 64 + 0 ≤ _; omega) ?_
            exact ih (pl + k1) (jj - k1) (j + 1) _ h6 hk2 (by omega) (by omega) (by omega) (by omega) S5 _ rfl
          refine br_ok X (dk rfl) rfl (show ((110 : Nat) : Int) + 8 = ((118 : Nat) : Int) from rfl) (fun c3 => ?_) (fun c3 => ?_)
          · refine ldcT_ok X E 2 (by decide) rfl rfl (dk rfl) ?_
            exact at120 2 (Or.inr rfl) _ rfl
          · refine ldcT_ok X E 1 (by decide) rfl rfl (dk rfl) ?_
            refine br_ok X (dk rfl) rfl (show ((115 : Nat) : Int) + 5 = ((120 : Nat) : Int) from rfl) (fun _ => ?_) (fun q => absurd trivial q)
            exact at120 1 (Or.inl rfl) _ rfl
      have at85 : ∀ c0 : Nat, c0 < 256 → ∀ (l : List (Nat × Value)), lsel l [2, 0, 1] = [(2, vI x), (0, .ref a), (1, vI at')] → WR p la e (rmD (7 + (f + 1)) (8 * (k0 + 1) - 2) (600 * (k0 + 1) - 256)) s m args below meth c D cA B0 6 (fun v h' => ∃ nn, nn + 1 ≤ 4 * (k0 + 1) ∧ StrN h nn v h') 85 l [vI c0, .ref b] h1 2 20 := by
        intro c0 hc0 l hl
        refine WS.sel [2, 0, 1] hl ?_
        refine fst1_ok X (dk rfl) rfl ?_
        have e0 : Value.int ((nI c0).toUInt32 % 65536).toInt32 = vI c0 := congrArg Value.int (i2cN hc0)
        rw [e0]
        refine appC_ok (N := 64) X E S1 hc0 (by omega) (by omega) mlX10_182 ⟨by show 6 ≤ 7 + (f + 1); omega, by show 8 + (2 + 11) + 40 * 5 ≤ 40 * (7 + (f + 1)); omega⟩ ⟨by show 2 + 1 ≤ 8 * (k0 + 1) - 2; omega, by show 20 + 2 * 64 ≤ 600 * (k0 + 1) - 256; omega⟩ (Nat.le_of_ble_eq_true rfl) (dk rfl) (fun h2 S2 => ?_)
        iterate 7 refine fst1_ok X (dk rfl) rfl ?_
        have e1 : Value.int (nI at' + Int32.ofInt 1) = vI (at' + 1) := congrArg Value.int (by rw [nI_1', nI_add])
        refine WS.sel (l' := [(5, vI 0), (4, vI (at' + 1)), (3, .ref b), (2, vI x), (0, .ref a), (1, vI at')]) [5, 4, 3, 2, 0, 1] (by rw [← e1]; rfl) ?_
        have hh := loop (pF x) (at' + 1) k0 0 1 h2 hk0 (by omega) (by omega) (by omega) (by omega) S2
        have z : at' + 1 - at' - 1 = 0 := by omega
        rw [z] at hh
        exact hh _ rfl
      iterate 2 refine fst1_ok X (dk rfl) rfl ?_
      refine br_ok X (dk rfl) rfl (show ((44 : Nat) : Int) + 31 = ((75 : Nat) : Int) from rfl) (fun c3 => ?_) (fun c3 => ?_)
      · iterate 7 refine fst1_ok X (dk rfl) rfl ?_
        have e0 : Value.int ((Int8.ofInt 83).toInt32 + nI x - (Int8.ofInt 10).toInt32 - (Int8.ofInt 6).toInt32) = vI (83 + x - 10 - 6) := congrArg Value.int (by rw [show (Int8.ofInt 83).toInt32 = nI 83 by decide +kernel, nI_10, show (Int8.ofInt 6).toInt32 = nI 6 by decide +kernel, nI_add, nI_sub (by omega), nI_sub (by omega)])
        rw [e0]
        exact at85 _ (by omega) _ rfl
      · iterate 2 refine fst1_ok X (dk rfl) rfl ?_
        refine br_ok X (dk rfl) rfl (show ((50 : Nat) : Int) + 13 = ((63 : Nat) : Int) from rfl) (fun c4 => ?_) (fun c4 => ?_)
        · iterate 7 refine fst1_ok X (dk rfl) rfl ?_
          have e0 : Value.int ((Int8.ofInt 80).toInt32 + nI x - (Int8.ofInt 10).toInt32 - Int32.ofInt 4) = vI (80 + x - 10 - 4) := congrArg Value.int (by rw [show (Int8.ofInt 80).toInt32 = nI 80 by decide +kernel, nI_10, show Int32.ofInt 4 = nI 4 by decide +kernel, nI_add, nI_sub (by omega), nI_sub (by omega)])
          rw [e0]
          refine br_ok X (dk rfl) rfl (show ((72 : Nat) : Int) + 13 = ((85 : Nat) : Int) from rfl) (fun _ => ?_) (fun q => absurd trivial q)
          exact at85 _ (by omega) _ rfl
        · iterate 5 refine fst1_ok X (dk rfl) rfl ?_
          have e0 : Value.int ((Int8.ofInt 75).toInt32 + nI x - (Int8.ofInt 10).toInt32) = vI (75 + x - 10) := congrArg Value.int (by rw [show (Int8.ofInt 75).toInt32 = nI 75 by decide +kernel, nI_10, nI_add, nI_sub (by omega)])
          rw [e0]
          refine br_ok X (dk rfl) rfl (show ((60 : Nat) : Int) + 25 = ((85 : Nat) : Int) from rfl) (fun _ => ?_) (fun q => absurd trivial q)
          exact at85 _ (by omega) _ rfl
    · refine newSB_ok X E ncX10_173 mlX10_175 (dk rfl) (dk rfl) (dk rfl) ⟨by show 3 ≤ 7 + (f + 1); omega, by show 8 + (1 + 11) + 40 * 2 ≤ 40 * (7 + (f + 1)); omega⟩ ⟨by show 0 + 2 ≤ 8 * (k0 + 1) - 2; omega, by show 0 + 20 ≤ 600 * (k0 + 1) - 256; omega⟩ (Nat.le_of_ble_eq_true rfl) (fun b h1 S1 => ?_)
      refine ldcT_ok X E 0 (by decide) rfl rfl (dk rfl) ?_
      refine appS_ok (N := 64) X E (S1.con 0 (by decide)) (by decide) (by omega) mlX10_178 ⟨by show 6 ≤ 7 + (f + 1); omega, by show 8 + (2 + 11) + 40 * 5 ≤ 40 * (7 + (f + 1)); omega⟩ ⟨by show 0 + 2 + 1 ≤ 8 * (k0 + 1) - 2; omega, by show 0 + 20 + 2 * 64 ≤ 600 * (k0 + 1) - 256; omega⟩ (Nat.le_of_ble_eq_true rfl) (dk rfl) (fun h2 S2 => ?_)
      have S2 : SBst h h2 b 0 := S2
      iterate 4 refine fst1_ok X (dk rfl) rfl ?_
      have e0 : Value.int (((Int8.ofInt 97).toInt32 + nI x).toUInt32 % 65536).toInt32 = vI (97 + x) := congrArg Value.int (by rw [show (Int8.ofInt 97).toInt32 = nI 97 by decide +kernel, nI_add]; exact i2cN (by omega))
      rw [e0]
      refine appC_ok (N := 64) X E S2 (by omega) (by omega) (by omega) mlX10_182 ⟨by show 6 ≤ 7 + (f + 1); omega, by show 8 + (2 + 11) + 40 * 5 ≤ 40 * (7 + (f + 1)); omega⟩ ⟨by show 0 + 2 + 1 + 1 ≤ 8 * (k0 + 1) - 2; omega, by show 0 + 20 + 2 * 64 + 2 * 64 ≤ 600 * (k0 + 1) - 256; omega⟩ (Nat.le_of_ble_eq_true rfl) (dk rfl) (fun h3 S3 => ?_)
      refine toS_ok X E S3 mlX10_185 ⟨by show 6 ≤ 7 + (f + 1); omega, by show 8 + (1 + 11) + 40 * 5 ≤ 40 * (7 + (f + 1)); omega⟩ ⟨by show 0 + 2 + 1 + 1 + 2 ≤ 8 * (k0 + 1) - 2; omega, by show 0 + 20 + 2 * 64 + 2 * 64 + (4 + (0 + 1)) ≤ 600 * (k0 + 1) - 256; omega⟩ (Nat.le_of_ble_eq_true rfl) (dk rfl) (fun sa h4 S4 => ?_)
      exact reta_ok X hr hlk (Or.inl ⟨_, rfl⟩) (Or.inr ⟨_, rfl⟩) (dk rfl) ⟨_, by omega, S4⟩ (by show 0 + 2 + 1 + 1 + 2 ≤ 8 * (k0 + 1) - 2; omega) (by show 0 + 20 + 2 * 64 + 2 * 64 + (4 + (0 + 1)) ≤ 600 * (k0 + 1) - 256; omega)
end M98i
section M98j
variable {la : Launch} {D : va_G} {cA : Nat → ClassId} {B0 pa : Nat} {o S A : Nat} {sl : List (List Nat)} {an : List (List (List Nat))} {a r kn th : Int32}
end M98j
end U98itx4
section U98jtx5
/-! texts of the class, weakly (printed by wip/p40/genV.py) -/
theorem lrc {x : Int32} (hx : LR x) : ∃ c0 : Nat, c0 < 256 ∧ (((Int8.ofInt 97).toInt32 + x).toUInt32 % 65536).toInt32 = nI c0 := by
  obtain ⟨h1, h2⟩ := hx
  refine ⟨(97 + x.toInt).toNat, by omega, ?_⟩
  have e : (Int8.ofInt 97).toInt32 + x = nI (97 + x.toInt).toNat := by
    apply Int32.toInt.inj
    rw [Int32.toInt_add, show ((Int8.ofInt 97).toInt32).toInt = 97 by decide +kernel]
    have e2 : (nI (97 + x.toInt).toNat).toInt = ((97 + x.toInt).toNat : Int) := Int32.toInt_ofNat_of_lt (by omega)
    rw [e2, show ((97 + x.toInt).toNat : Int) = 97 + x.toInt by omega]
    exact Int.bmod_eq_of_le (by omega) (by omega)
  rw [e]
  exact i2cN (by omega)
/-- how many letters i letters of a term can come to -/
def wsum : Nat → Nat
  | 0 => 0
  | i + 1 => wsum i + (i + 2)
theorem wsum_le : ∀ i, i ≤ 16 → wsum i ≤ 152 := by decide
section M98k
variable {la : Launch} {D : va_G} {cA : Nat → ClassId} {B0 pa : Nat} {Γ : TY}
set_option maxHeartbeats 4000000 in
theorem c6_signOf (h : AH) (x : Int32) (hx : LR x) : CT la D cA B0 pa yX6_signOf cX6_signOf 2 (some .char) (rmD 4 0 0) [.int x] h (fun v h' => (∃ c0 : Nat, c0 < 256 ∧ v = some (vI c0)) ∧ h' = h) := by
  refine CT_of (by decide +kernel) (Nat.le_of_ble_eq_true rfl) ?_
  intro p e s m args below meth c X E hr hlk hnm
  have dk : ∀ {pc : Nat} {q : Instr × Nat}, lkd DX6_signOf pc = some q → decode cX6_signOf pc = .ok q := lkd_ok DX6_signOf_ok
  have low : ∀ l : List (Nat × Value), lsel l [0] = [(0, .int x)] → WR p la e (rmD 4 0 0) s m args below meth c D cA B0 2 (fun v h' => (∃ c0 : Nat, c0 < 256 ∧ v = some (vI c0)) ∧ h' = h) 42 l [] h 0 0 := by
    intro l hl
    refine WS.sel [0] hl ?_
    iterate 4 refine fst1_ok X (dk rfl) rfl ?_
    obtain ⟨c0, hc0, e0⟩ := lrc hx
    rw [e0]
    exact reti_ok X hr hlk (nchar hc0) (dk rfl) ⟨⟨c0, hc0, rfl⟩, rfl⟩ (Nat.le_of_ble_eq_true rfl) (Nat.le_of_ble_eq_true rfl)
  have zero : ∀ l : List (Nat × Value), lsel l [0] = [(0, .int x)] → WR p la e (rmD 4 0 0) s m args below meth c D cA B0 2 (fun v h' => (∃ c0 : Nat, c0 < 256 ∧ v = some (vI c0)) ∧ h' = h) 23 l [] h 0 0 := by
    intro l hl
    refine WS.sel [0] hl ?_
    iterate 3 refine fst1_ok X (dk rfl) rfl ?_
    refine br_ok X (dk rfl) rfl (show ((26 : Nat) : Int) + 16 = ((42 : Nat) : Int) from rfl) (fun _ => ?_) (fun q => absurd rfl q)
    exact low _ rfl
  have hs : StrC D (D.2 50 4) (D.2 51 4) 8 ∨ StrH h (D.2 50 4) (D.2 51 4) 8 := Or.inl ⟨4, by decide, rfl, rfl, rfl⟩
  have S : StrA D h (D.2 50 4) 8 := ⟨_, hs⟩
  iterate 2 refine fst1_ok X (dk rfl) rfl ?_
  refine br_ok X (dk rfl) rfl (show ((3 : Nat) : Int) + 20 = ((23 : Nat) : Int) from rfl) (fun c1 => ?_) (fun c1 => ?_)
  · exact zero _ rfl
  · rw [nI_10] at c1
    iterate 2 refine fst1_ok X (dk rfl) rfl ?_
    refine ldcwT_ok X E 4 (by decide) rfl rfl (dk rfl) ?_
    refine callT_ok (av := []) (r := [.int (Int8.ofInt 10).toInt32, .int x]) X E hs (t_slen h S) lkJ0_length_8abf5 mlX6_325 lmJ0_length_8abf5 lvJ0_length_8abf5 ⟨Nat.le_of_ble_eq_true rfl, Nat.le_of_ble_eq_true rfl⟩ ⟨Nat.le_of_ble_eq_true rfl, Nat.le_of_ble_eq_true rfl⟩ (Nat.le_of_ble_eq_true rfl) (dk rfl) ?_
    rintro _ _ ⟨rfl, rfl⟩
    refine fst1_ok X (dk rfl) rfl ?_
    refine br_ok X (dk rfl) rfl (show ((16 : Nat) : Int) + 7 = ((23 : Nat) : Int) from rfl) (fun c2 => ?_) (fun c2 => ?_)
    · exact zero _ rfl
    · rw [nI_10, nI_add] at c2
      have c3 : ¬ x < 0 := fun z => c1 (Int32.lt_trans z (by decide))
      obtain ⟨t, ht, rfl⟩ := nI_of c3
      have t1 : 10 ≤ t := by
        rcases Nat.lt_or_ge t 10 with q | q
        · exact absurd ((nI_ltI ht (by omega)).mpr q) c1
        · exact q
      have t2 : t < 18 := by
        rcases Nat.lt_or_ge t 18 with q | q
        · exact q
        · exact absurd ((nI_leI (a := 18) (by omega) ht).mpr q) c2
      refine fst1_ok X (dk rfl) rfl ?_
      refine br_ok X (dk rfl) rfl (show ((20 : Nat) : Int) + 4 = ((24 : Nat) : Int) from rfl) (fun _ => ?_) (fun q => absurd trivial q)
      iterate 2 refine fst1_ok X (dk rfl) rfl ?_
      refine br_ok X (dk rfl) rfl (show ((26 : Nat) : Int) + 16 = ((42 : Nat) : Int) from rfl) (fun q => absurd q (by decide)) (fun _ => ?_)
      refine ldcwT_ok X E 4 (by decide) rfl rfl (dk rfl) ?_
      iterate 3 refine fst1_ok X (dk rfl) rfl ?_
      rw [nI_10, nI_sub t1]
      refine callT_ok (av := [vI (t - 10)]) (r := []) X E hs (t_char _ (i := 4) (by decide) (show t - 10 < 8 by omega)) lkJ0_charAt_5068e mlX6_328 lmJ0_charAt_5068e lvJ0_charAt_5068e ⟨Nat.le_of_ble_eq_true rfl, Nat.le_of_ble_eq_true rfl⟩ ⟨Nat.le_of_ble_eq_true rfl, Nat.le_of_ble_eq_true rfl⟩ (Nat.le_of_ble_eq_true rfl) (dk rfl) ?_
      rintro _ _ ⟨⟨c0, hc0, rfl⟩, rfl⟩
      refine br_ok X (dk rfl) rfl (show ((39 : Nat) : Int) + 8 = ((47 : Nat) : Int) from rfl) (fun _ => ?_) (fun q => absurd trivial q)
      exact reti_ok X hr hlk (nchar hc0) (dk rfl) ⟨⟨c0, hc0, rfl⟩, rfl⟩ (Nat.le_of_ble_eq_true rfl) (Nat.le_of_ble_eq_true rfl)
end M98k
end U98jtx5
section Uc01base
/-! THE CLASS, strongly: fifty-two terms at places B i, their letters at Q i (printed by wip/p20/genS1.py) -/
abbrev TC : Type := List Int32 × Bool
/-- how many letters each has room for: slots 0 to 5, answers 6 + 8 k + n, the spare ones 30, 31, the wide ones 32, 33, spare answers 34 + n, 42 + n, both 50, 51 -/
def rmI (i : Nat) : Nat := if i < 32 then 16 else if i < 34 then 256 else if i < 50 then 16 else 32
theorem rmI_le (i : Nat) : rmI i ≤ 256 := by unfold rmI; split <;> (try split) <;> (try split) <;> omega
theorem rmI_ge (i : Nat) : 16 ≤ rmI i := by unfold rmI; split <;> (try split) <;> (try split) <;> omega
def TmX (h : AH) (b q L : Nat) (t : TC) : Prop := t.1.length ≤ L ∧ h b = some (7, [.ref q, vI t.1.length, .int (bI t.2)]) ∧ ∃ xs : List Int32, h q = some (107, xs.map Value.int) ∧ xs.length = L ∧ xs.take t.1.length = t.1
def TS (B Q : Nat → Nat) (h : AH) (F : Nat → TC) : Prop := ∀ i, i < 52 → TmX h (B i) (Q i) (rmI i) (F i)
def LYO (B Q : Nat → Nat) : Prop := (∀ i j, i < 52 → j < 52 → B i = B j → i = j) ∧ (∀ i j, i < 70 → j < 70 → Q i = Q j → i = j)
def upF (F : Nat → TC) (i : Nat) (c : TC) : Nat → TC := fun j => if j = i then c else F j
theorem upF_self (F : Nat → TC) (i : Nat) (c : TC) : upF F i c i = c := if_pos rfl
theorem upF_ne (F : Nat → TC) {i j : Nat} (c : TC) (h : j ≠ i) : upF F i c j = F j := if_neg h
theorem upF_up (F : Nat → TC) (i : Nat) (c d : TC) : upF (upF F i c) i d = upF F i d := by
  funext j
  unfold upF
  by_cases e : j = i
  · rw [if_pos e, if_pos e]
  · rw [if_neg e, if_neg e, if_neg e]
theorem upF_same (F : Nat → TC) (i : Nat) : upF F i (F i) = F := by
  funext j
  unfold upF
  by_cases e : j = i
  · rw [if_pos e, e]
  · rw [if_neg e]
/-- only terms' cells change -/
def FrT (B Q : Nat → Nat) (h h' : AH) : Prop := ∀ a : Nat, (∀ i, i < 52 → a ≠ B i ∧ a ≠ Q i) → h' a = h a
theorem FrT.rf {B Q : Nat → Nat} (h : AH) : FrT B Q h h := fun _ _ => rfl
theorem FrT.trans {B Q : Nat → Nat} {h1 h2 h3 : AH} (x : FrT B Q h1 h2) (y : FrT B Q h2 h3) : FrT B Q h1 h3 := fun a k => (y a k).trans (x a k)
theorem FrT.setB {B Q : Nat → Nat} {h h' : AH} (x : FrT B Q h h') {i : Nat} (hi : i < 52) (c : AC) : FrT B Q h (hup h' (B i) c) := fun a k => by
  rw [hup_ne _ _ (k i hi).1]
  exact x a k
theorem FrT.setQ {B Q : Nat → Nat} {h h' : AH} (x : FrT B Q h h') {i : Nat} (hi : i < 52) (c : AC) : FrT B Q h (hup h' (Q i) c) := fun a k => by
  rw [hup_ne _ _ (k i hi).2]
  exact x a k
section TSs
variable {B Q : Nat → Nat} {h h' : AH} {F : Nat → TC}
theorem TS.bq (S : TS B Q h F) {i j : Nat} (hi : i < 52) (hj : j < 52) : B i ≠ Q j := by
  obtain ⟨-, b1, -⟩ := S i hi
  obtain ⟨-, -, xs, b2, -⟩ := S j hj
  exact k_ne b1 b2 (by decide)
/-- cells of another kind stay -/
theorem FrT.keep (S : TS B Q h F) (x : FrT B Q h h') {a k : Nat} {vs : List Value} (e : h a = some (k, vs)) (h7 : k ≠ 7) (h8 : k ≠ 107) : h' a = some (k, vs) := by
  rw [x a (fun i hi => ?_)]
  · exact e
  · obtain ⟨-, b1, xs, b2, -⟩ := S i hi
    exact ⟨k_ne e b1 h7, k_ne e b2 h8⟩
theorem TS.fld (Y : LYO B Q) (S : TS B Q h F) {i : Nat} (hi : i < 52) {t : TC} (ht : t.1.length ≤ rmI i) {xs : List Int32} (hx : h (Q i) = some (107, xs.map Value.int)) (hl : xs.length = rmI i) (hk : xs.take t.1.length = t.1) :
    TS B Q (hup h (B i) (7, [.ref (Q i), vI t.1.length, .int (bI t.2)])) (upF F i t) := by
  intro j hj
  by_cases e : j = i
  · subst e
    rw [upF_self]
    exact ⟨ht, hup_self _ _ _, xs, by rw [hup_ne _ _ (S.bq hi hi).symm]; exact hx, hl, hk⟩
  · obtain ⟨a1, a2, ys, a3, a4, a5⟩ := S j hj
    rw [upF_ne _ _ e]
    exact ⟨a1, by rw [hup_ne _ _ (fun z => e (Y.1 _ _ hj hi z))]; exact a2, ys, by rw [hup_ne _ _ (S.bq hi hj).symm]; exact a3, a4, a5⟩
theorem TS.arr (Y : LYO B Q) (S : TS B Q h F) {i : Nat} (hi : i < 52) {xs : List Int32} (hl : xs.length = rmI i) (hk : xs.take (F i).1.length = (F i).1) {j : Nat} (hj : (F i).1.length ≤ j) (v : Int32) :
    TS B Q (hup h (Q i) (107, (xs.set j v).map Value.int)) F := by
  intro u hu
  obtain ⟨a1, a2, ys, a3, a4, a5⟩ := S u hu
  refine ⟨a1, by rw [hup_ne _ _ (S.bq hu hi)]; exact a2, ?_⟩
  by_cases e : u = i
  · subst e
    refine ⟨xs.set j v, hup_self _ _ _, by rw [List.length_set]; exact hl, ?_⟩
    rw [List.take_set, List.set_eq_of_length_le (by rw [List.length_take]; omega)]
    exact hk
  · exact ⟨ys, by rw [hup_ne _ _ (fun z => e (Y.2 _ _ (by omega) (by omega) z))]; exact a3, a4, a5⟩
end TSs
theorem take_get {xs ts : List Int32} {n j : Nat} {x : Int32} (h : xs.take n = ts) (hj : ts[j]? = some x) : xs[j]? = some x := by
  rw [← h, List.getElem?_take] at hj
  split at hj
  · exact hj
  · cases hj
theorem nI_lt_of {x : Int32} {n : Nat} (h1 : ¬ x < 0) (h : x.toNatClampNeg < n) (hn : n < 2 ^ 31) : x < nI n := by
  obtain ⟨j, hj, rfl⟩ := nI_of h1
  rw [nI_clamp hj] at h
  exact (nI_ltI hj hn).mpr h
/-- a letter, or REFUSED -/
def ltX (ts : List Int32) (x : Int32) : Int32 := if x < 0 then (Int8.ofInt (-9)).toInt32 else (ts[x.toNatClampNeg]?).getD ((Int8.ofInt (-9)).toInt32)
theorem ltX_nI {ts : List Int32} {j : Nat} {x : Int32} (hj : j < 2 ^ 31) (h : ts[j]? = some x) : ltX ts (nI j) = x := by
  unfold ltX
  rw [if_neg (nI_pos hj), nI_clamp hj, h]
  rfl
theorem ltX_out {ts : List Int32} {j : Nat} (hj : j < 2 ^ 31) (h : ts.length ≤ j) : ltX ts (nI j) = (Int8.ofInt (-9)).toInt32 := by
  unfold ltX
  rw [if_neg (nI_pos hj), nI_clamp hj, List.getElem?_eq_none h]
  rfl
/-- one letter more, if there is room -/
def addC (L : Nat) (t : TC) (x : Int32) : TC := if t.1.length < L then (t.1 ++ [x], t.2) else (t.1, true)
def addR (L : Nat) (t : TC) (ys : List Int32) : TC := ys.foldl (addC L) t
def addT (L : Nat) (t u : TC) : TC := ((addR L t u.1).1, (addR L t u.1).2 || u.2)
theorem addC_len {L : Nat} {t : TC} (h : t.1.length ≤ L) (x : Int32) : (addC L t x).1.length ≤ L := by
  unfold addC
  split
  · simp; omega
  · exact h
theorem addR_eq (L : Nat) : ∀ (ys : List Int32) (t : TC), t.1.length ≤ L → addR L t ys = ((t.1 ++ ys).take L, t.2 || decide (L < t.1.length + ys.length)) := by
  intro ys
  induction ys with
  | nil =>
    intro t ht
    rw [List.append_nil, List.take_of_length_le ht]
    have : decide (L < t.1.length + ([] : List Int32).length) = false := decide_eq_false (by simp; omega)
    rw [this, Bool.or_false]
    rfl
  | cons y r ih =>
    intro t ht
    show addR L (addC L t y) r = _
    rw [ih _ (addC_len ht y)]
    unfold addC
    by_cases e : t.1.length < L
    · rw [if_pos e]
      refine Prod.ext ?_ ?_
      · simp
      · show (t.2 || _) = (t.2 || _)
        congr 1
        exact decide_eq_decide.mpr (by simp; omega)
    · rw [if_neg e]
      refine Prod.ext ?_ ?_
      · show (t.1 ++ r).take L = (t.1 ++ y :: r).take L
        rw [List.take_append_of_le_length (by omega), List.take_append_of_le_length (by omega)]
      · show (true || decide (L < t.1.length + r.length)) = (t.2 || decide (L < t.1.length + (y :: r).length))
        rw [Bool.true_or, decide_eq_true (p := L < t.1.length + (y :: r).length) (by simp; omega), Bool.or_true]
theorem addR_fit {L : Nat} {t : TC} {ys : List Int32} (h : t.1.length + ys.length ≤ L) : addR L t ys = (t.1 ++ ys, t.2) := by
  rw [addR_eq L ys t (by omega), List.take_of_length_le (by simp; omega), decide_eq_false (by omega), Bool.or_false]
theorem addT_fit {L : Nat} {t u : TC} (h : t.1.length + u.1.length ≤ L) : addT L t u = (t.1 ++ u.1, t.2 || u.2) := by
  unfold addT
  rw [addR_fit h]
theorem addR_len {L : Nat} {t : TC} (h : t.1.length ≤ L) (ys : List Int32) : (addR L t ys).1.length ≤ L := by
  rw [addR_eq L ys t h]
  show (List.take L _).length ≤ L
  rw [List.length_take]
  omega
section A7
variable {p : Program} {la : Launch} {e : Env} {R : Room} {s : State} {m : MethodId} {args : Array Value} {below : List Frame} {meth : Method} {c : Code} {Q : State → Prop}
variable {D : va_G} {cA : Nat → ClassId} {B0 nL : Nat} {cc : ByteArray} {own : String} {pc k n : Nat} {l : List (Nat × Value)} {r : List Value} {h : AH}
/-- a number of a row of the class -/
theorem ald7v_ok (X : CX p s m args c D cA B0 nL cc own) {a : Nat} {xs : List Int32} {j x : Int32} (hd : decode cc pc = .ok (.iaload, 1)) (ha : h a = some (107, xs.map Value.int)) (hj : ¬ j < 0) (hl : xs[j.toNatClampNeg]? = some x)
    (kk : WS p la e R s m args below meth c Q D cA B0 nL (pc + 1) l (.int x :: r) h k n) : WS p la e R s m args below meth c Q D cA B0 nL pc l (.int j :: .ref a :: r) h k n := by
  obtain ⟨hx, hb, hml, hown, hts, hK, hB⟩ := X
  intro H locs ls hH hls
  obtain ⟨hk7, hc⟩ := (hH.1 a _ ha).2.2 (by show ¬ 107 < 100; omega)
  have hl0 : j.toNatClampNeg < xs.length := (List.getElem?_eq_some_iff.mp hl).1
  have hlt : j.toNatClampNeg < (xs.map Value.int).length := by rw [List.length_map]; exact hl0
  have hin : ¬ (j < 0 ∨ (arrV (cA 107) (xs.map Value.int).length (vp_V (xs.map Value.int))).slots.size ≤ j.toNatClampNeg) := by
    rw [arrV_size]; rintro (q | q)
    · exact hj q
    · omega
  have hv : (arrV (cA 107) (xs.map Value.int).length (vp_V (xs.map Value.int))).slots[j.toNatClampNeg]? = some (.int x) := by rw [arrV_read _ _ hlt, vp_V_get (v := .int x) (by rw [List.getElem?_map, hl]; rfl)]
  exact W.iald hx hb hc (hK.arr (k := 107) (by omega) (by omega) _ _) (fun q => by cases q) hin hv rfl rfl hd (kk H locs ls hH hls)
end A7
end Uc01base
section Uc02term
/-! the class, strongly: its terms' methods (printed by wip/p20/genS1.py) -/
section S02
variable {la : Launch} {D : va_G} {cA : Nat → ClassId} {B0 pa : Nat} {B Q : Nat → Nat} {F : Nat → TC}
/-- a method that changes terms alone -/
def TP (B Q : Nat → Nat) (F' : Nat → TC) (h : AH) (v : Option Value) (h' : AH) : Prop := v = none ∧ TS B Q h' F' ∧ FrT B Q h h'
/-- a method that reads -/
abbrev RP (x : Value) (h : AH) : Option Value → AH → Prop := RdO (fun v => v = some x) h
set_option maxHeartbeats 4000000 in
theorem s5_length (h : AH) (S : TS B Q h F) {i : Nat} (hi : i < 52) : CT la D cA B0 pa yX5_length cX5_length 1 (some .int) (rmD 0 0 0) [.ref (B i)] h (RP (vI (F i).1.length) h) := by
  refine CT_of (by decide +kernel) (Nat.le_of_ble_eq_true rfl) ?_
  intro p e s m args below meth c X E hr hlk hnm
  have dk : ∀ {pc : Nat} {q : Instr × Nat}, lkd DX5_length pc = some q → decode cX5_length pc = .ok q := lkd_ok DX5_length_ok
  obtain ⟨a1, a2, xs, a3, a4, a5⟩ := S i hi
  refine fst1_ok X (dk rfl) rfl ?_
  refine getf_ok X flX5_21 (dk rfl) a2 rfl ?_
  exact reti_ok X hr hlk rfl (dk rfl) ⟨rfl, rfl⟩ (Nat.le_of_ble_eq_true rfl) (Nat.le_of_ble_eq_true rfl)
set_option maxHeartbeats 4000000 in
theorem s5_isTooLong (h : AH) (S : TS B Q h F) {i : Nat} (hi : i < 52) : CT la D cA B0 pa yX5_isTooLong cX5_isTooLong 1 (some .boolean) (rmD 0 0 0) [.ref (B i)] h (RP (.int (bI (F i).2)) h) := by
  refine CT_of (by decide +kernel) (Nat.le_of_ble_eq_true rfl) ?_
  intro p e s m args below meth c X E hr hlk hnm
  have dk : ∀ {pc : Nat} {q : Instr × Nat}, lkd DX5_isTooLong pc = some q → decode cX5_isTooLong pc = .ok q := lkd_ok DX5_isTooLong_ok
  obtain ⟨a1, a2, xs, a3, a4, a5⟩ := S i hi
  refine fst1_ok X (dk rfl) rfl ?_
  refine getf_ok X flX5_25 (dk rfl) a2 rfl ?_
  exact reti_ok X hr hlk (bI_n _) (dk rfl) ⟨rfl, rfl⟩ (Nat.le_of_ble_eq_true rfl) (Nat.le_of_ble_eq_true rfl)
set_option maxHeartbeats 4000000 in
theorem s5_hasPlace (h : AH) (S : TS B Q h F) {i : Nat} (hi : i < 52) (x : Int32) : CT la D cA B0 pa yX5_hasPlace cX5_hasPlace 2 (some .boolean) (rmD 0 0 0) [.ref (B i), .int x] h (RP (.int (bI (decide (¬ x < 0 ∧ x.toNatClampNeg < (F i).1.length)))) h) := by
  refine CT_of (by decide +kernel) (Nat.le_of_ble_eq_true rfl) ?_
  intro p e s m args below meth c X E hr hlk hnm
  have dk : ∀ {pc : Nat} {q : Instr × Nat}, lkd DX5_hasPlace pc = some q → decode cX5_hasPlace pc = .ok q := lkd_ok DX5_hasPlace_ok
  obtain ⟨a1, a2, xs, a3, a4, a5⟩ := S i hi
  have hL := rmI_le i
  refine fst1_ok X (dk rfl) rfl ?_
  refine br_ok X (dk rfl) rfl (show ((1 : Nat) : Int) + 15 = ((16 : Nat) : Int) from rfl) (fun c1 => ?_) (fun c1 => ?_)
  · rw [decide_eq_false (fun z => z.1 c1)]
    refine fst1_ok X (dk rfl) rfl ?_
    exact reti_ok X hr hlk (bI_n false) (dk rfl) ⟨rfl, rfl⟩ (Nat.le_of_ble_eq_true rfl) (Nat.le_of_ble_eq_true rfl)
  · iterate 2 refine fst1_ok X (dk rfl) rfl ?_
    refine getf_ok X flX5_21 (dk rfl) a2 rfl ?_
    refine br_ok X (dk rfl) rfl (show ((9 : Nat) : Int) + 7 = ((16 : Nat) : Int) from rfl) (fun c2 => ?_) (fun c2 => ?_)
    · have h2 : ¬ x.toNatClampNeg < (F i).1.length := fun z => absurd c2 (Int32.not_le.mpr (nI_lt_of c1 z (by omega)))
      rw [decide_eq_false (fun z => h2 z.2)]
      refine fst1_ok X (dk rfl) rfl ?_
      exact reti_ok X hr hlk (bI_n false) (dk rfl) ⟨rfl, rfl⟩ (Nat.le_of_ble_eq_true rfl) (Nat.le_of_ble_eq_true rfl)
    · rw [decide_eq_true ⟨c1, ix_ok (by omega) c1 c2⟩]
      refine fst1_ok X (dk rfl) rfl ?_
      refine br_ok X (dk rfl) rfl (show ((13 : Nat) : Int) + 4 = ((17 : Nat) : Int) from rfl) (fun _ => ?_) (fun q => absurd trivial q)
      exact reti_ok X hr hlk (bI_n true) (dk rfl) ⟨rfl, rfl⟩ (Nat.le_of_ble_eq_true rfl) (Nat.le_of_ble_eq_true rfl)
set_option maxHeartbeats 4000000 in
theorem s5_letterAt (h : AH) (S : TS B Q h F) {i : Nat} (hi : i < 52) (x : Int32) : CT la D cA B0 pa yX5_letterAt cX5_letterAt 2 (some .int) (rmD 0 0 0) [.ref (B i), .int x] h (RP (.int (ltX (F i).1 x)) h) := by
  refine CT_of (by decide +kernel) (Nat.le_of_ble_eq_true rfl) ?_
  intro p e s m args below meth c X E hr hlk hnm
  have dk : ∀ {pc : Nat} {q : Instr × Nat}, lkd DX5_letterAt pc = some q → decode cX5_letterAt pc = .ok q := lkd_ok DX5_letterAt_ok
  obtain ⟨a1, a2, xs, a3, a4, a5⟩ := S i hi
  have hL := rmI_le i
  refine fst1_ok X (dk rfl) rfl ?_
  refine br_ok X (dk rfl) rfl (show ((1 : Nat) : Int) + 29 = ((30 : Nat) : Int) from rfl) (fun c1 => ?_) (fun c1 => ?_)
  · unfold ltX
    rw [if_pos c1]
    refine fst1_ok X (dk rfl) rfl ?_
    exact reti_ok X hr hlk rfl (dk rfl) ⟨rfl, rfl⟩ (Nat.le_of_ble_eq_true rfl) (Nat.le_of_ble_eq_true rfl)
  · unfold ltX
    rw [if_neg c1]
    iterate 2 refine fst1_ok X (dk rfl) rfl ?_
    refine getf_ok X flX5_21 (dk rfl) a2 rfl ?_
    refine br_ok X (dk rfl) rfl (show ((9 : Nat) : Int) + 21 = ((30 : Nat) : Int) from rfl) (fun c2 => ?_) (fun c2 => ?_)
    · have h2 : (F i).1.length ≤ x.toNatClampNeg := by
        rcases Nat.lt_or_ge x.toNatClampNeg (F i).1.length with z | z
        · exact absurd c2 (Int32.not_le.mpr (nI_lt_of c1 z (by omega)))
        · exact z
      rw [List.getElem?_eq_none h2]
      refine fst1_ok X (dk rfl) rfl ?_
      exact reti_ok X hr hlk rfl (dk rfl) ⟨rfl, rfl⟩ (Nat.le_of_ble_eq_true rfl) (Nat.le_of_ble_eq_true rfl)
    · have h2 := ix_ok (by omega) c1 c2
      obtain ⟨y, hy⟩ : ∃ y, (F i).1[x.toNatClampNeg]? = some y := ⟨_, List.getElem?_eq_getElem h2⟩
      rw [hy]
      iterate 2 refine fst1_ok X (dk rfl) rfl ?_
      refine getf_ok X flX5_15 (dk rfl) a2 rfl ?_
      refine alen7_ok X (dk rfl) a3 a4 ?_
      refine br_ok X (dk rfl) rfl (show ((18 : Nat) : Int) + 12 = ((30 : Nat) : Int) from rfl) (fun q => absurd q (Int32.not_le.mpr (nI_lt_of c1 (by omega) (by omega)))) (fun _ => ?_)
      refine fst1_ok X (dk rfl) rfl ?_
      refine getf_ok X flX5_15 (dk rfl) a2 rfl ?_
      refine fst1_ok X (dk rfl) rfl ?_
      refine ald7v_ok X (dk rfl) a3 c1 (take_get a5 hy) ?_
      refine br_ok X (dk rfl) rfl (show ((27 : Nat) : Int) + 5 = ((32 : Nat) : Int) from rfl) (fun _ => ?_) (fun q => absurd trivial q)
      exact reti_ok X hr hlk rfl (dk rfl) ⟨rfl, rfl⟩ (Nat.le_of_ble_eq_true rfl) (Nat.le_of_ble_eq_true rfl)
set_option maxHeartbeats 4000000 in
theorem s5_empty (h : AH) (Y : LYO B Q) (S : TS B Q h F) {i : Nat} (hi : i < 52) : CT la D cA B0 pa yX5_empty cX5_empty 1 none (rmD 0 0 0) [.ref (B i)] h (TP B Q (upF F i ([], false)) h) := by
  refine CT_of (by decide +kernel) (Nat.le_of_ble_eq_true rfl) ?_
  intro p e s m args below meth c X E hr hlk hnm
  have dk : ∀ {pc : Nat} {q : Instr × Nat}, lkd DX5_empty pc = some q → decode cX5_empty pc = .ok q := lkd_ok DX5_empty_ok
  obtain ⟨a1, a2, xs, a3, a4, a5⟩ := S i hi
  iterate 2 refine fst1_ok X (dk rfl) rfl ?_
  refine putf_ok X flX5_21 ftX5_1 (Or.inl rfl) rfl rfl (dk rfl) a2 (Nat.le_of_ble_eq_true rfl) ?_
  iterate 2 refine fst1_ok X (dk rfl) rfl ?_
  refine putf_ok X flX5_25 ftX5_2 (Or.inl rfl) (by decide +kernel) (by decide +kernel) (dk rfl) (hup_self _ _ _) (Nat.le_of_ble_eq_true rfl) ?_
  rw [hup_hup]
  exact retv_ok X hr hlk (dk rfl) ⟨rfl, TS.fld (t := ([], false)) Y S hi (Nat.zero_le _) a3 a4 rfl, (FrT.rf h).setB hi _⟩ (Nat.le_of_ble_eq_true rfl) (Nat.le_of_ble_eq_true rfl)
set_option maxHeartbeats 4000000 in
theorem s5_add (h : AH) (Y : LYO B Q) (S : TS B Q h F) {i : Nat} (hi : i < 52) (x : Int32) : CT la D cA B0 pa yX5_add cX5_add 2 none (rmD 0 0 0) [.ref (B i), .int x] h (TP B Q (upF F i (addC (rmI i) (F i) x)) h) := by
  refine CT_of (by decide +kernel) (Nat.le_of_ble_eq_true rfl) ?_
  intro p e s m args below meth c X E hr hlk hnm
  have dk : ∀ {pc : Nat} {q : Instr × Nat}, lkd DX5_add pc = some q → decode cX5_add pc = .ok q := lkd_ok DX5_add_ok
  obtain ⟨a1, a2, xs, a3, a4, a5⟩ := S i hi
  have hL := rmI_le i
  refine fst1_ok X (dk rfl) rfl ?_
  refine getf_ok X flX5_21 (dk rfl) a2 rfl ?_
  refine br_ok X (dk rfl) rfl (show ((4 : Nat) : Int) + 38 = ((42 : Nat) : Int) from rfl) (fun q => absurd q (nI_pos (by omega))) (fun _ => ?_)
  refine fst1_ok X (dk rfl) rfl ?_
  refine getf_ok X flX5_21 (dk rfl) a2 rfl ?_
  refine fst1_ok X (dk rfl) rfl ?_
  refine getf_ok X flX5_15 (dk rfl) a2 rfl ?_
  refine alen7_ok X (dk rfl) a3 a4 ?_
  refine br_ok X (dk rfl) rfl (show ((16 : Nat) : Int) + 26 = ((42 : Nat) : Int) from rfl) (fun c1 => ?_) (fun c1 => ?_)
  · have h1 : ¬ (F i).1.length < rmI i := fun z => nI_ge z (by omega) c1
    unfold addC
    rw [if_neg h1]
    iterate 2 refine fst1_ok X (dk rfl) rfl ?_
    refine putf_ok X flX5_25 ftX5_2 (Or.inl rfl) (by decide +kernel) (by decide +kernel) (dk rfl) a2 (Nat.le_of_ble_eq_true rfl) ?_
    exact retv_ok X hr hlk (dk rfl) ⟨rfl, TS.fld (t := ((F i).1, true)) Y S hi a1 a3 a4 a5, (FrT.rf h).setB hi _⟩ (Nat.le_of_ble_eq_true rfl) (Nat.le_of_ble_eq_true rfl)
  · have h1 : (F i).1.length < rmI i := by
      rcases Nat.lt_or_ge (F i).1.length (rmI i) with z | z
      · exact z
      · exact absurd ((nI_leI (by omega) (by omega)).mpr z) c1
    unfold addC
    rw [if_pos h1]
    refine fst1_ok X (dk rfl) rfl ?_
    refine getf_ok X flX5_15 (dk rfl) a2 rfl ?_
    refine fst1_ok X (dk rfl) rfl ?_
    refine getf_ok X flX5_21 (dk rfl) a2 rfl ?_
    refine fst1_ok X (dk rfl) rfl ?_
    refine ast7_ok X (dk rfl) a3 (nI_pos (by omega)) (by rw [nI_clamp (by omega), a4]; exact h1) ?_
    rw [nI_clamp (by omega)]
    have S1 := S.arr Y hi a4 a5 (Nat.le_refl _) x
    have b2 : hup h (Q i) (107, (xs.set (F i).1.length x).map Value.int) (B i) = some (7, [.ref (Q i), vI (F i).1.length, .int (bI (F i).2)]) := by rw [hup_ne _ _ (S.bq hi hi)]; exact a2
    iterate 2 refine fst1_ok X (dk rfl) rfl ?_
    refine getf_ok X flX5_21 (dk rfl) b2 rfl ?_
    iterate 2 refine fst1_ok X (dk rfl) rfl ?_
    refine putf_ok X flX5_21 ftX5_1 (Or.inl rfl) rfl rfl (dk rfl) b2 (Nat.le_of_ble_eq_true rfl) ?_
    refine br_ok X (dk rfl) rfl (show ((39 : Nat) : Int) + 8 = ((47 : Nat) : Int) from rfl) (fun _ => ?_) (fun q => absurd trivial q)
    have e1 : Value.int (nI (F i).1.length + Int32.ofInt 1) = vI ((F i).1 ++ [x]).length := congrArg Value.int (by rw [nI_1', nI_add, List.length_append]; rfl)
    have S2 := TS.fld (t := ((F i).1 ++ [x], (F i).2)) Y S1 hi (by simp; omega) (hup_self _ _ _) (by rw [List.length_set]; exact a4) (by
      show (xs.set (F i).1.length x).take ((F i).1 ++ [x]).length = (F i).1 ++ [x]
      rw [List.length_append, List.length_singleton, List.take_add_one, List.take_set, List.set_eq_of_length_le (by rw [List.length_take]; omega), a5, List.getElem?_set_self (by omega)]
      rfl)
    rw [← e1] at S2
    exact retv_ok X hr hlk (dk rfl) ⟨rfl, S2, ((FrT.rf h).setQ hi _).setB hi _⟩ (Nat.le_of_ble_eq_true rfl) (Nat.le_of_ble_eq_true rfl)
end S02
end Uc02term
section Uc03rows
/-! the class, strongly: letters into terms (printed by wip/p20/genS2.py) -/
theorem dropc {xs : List Int32} {j : Nat} {x : Int32} (h : xs[j]? = some x) : xs.drop j = x :: xs.drop (j + 1) := by
  obtain ⟨h1, rfl⟩ := List.getElem?_eq_some_iff.mp h
  exact List.drop_eq_getElem_cons h1
section CT2
variable {p : Program} {la : Launch} {e : Env} {R : Room} {s : State} {m : MethodId} {args : Array Value} {below : List Frame} {meth : Method} {c : Code} {Q : State → Prop}
variable {D : va_G} {cA : Nat → ClassId} {B0 pa nL : Nat} {cc : ByteArray} {own : String} {pc k n : Nat} {l : List (Nat × Value)} {r : List Value} {h : AH} {B Q' : Nat → Nat} {F' : Nat → TC}
/-- a call that changes terms alone -/
theorem callVT_ok (X : CX p s m args c D cA B0 nL cc own) (E : EN D cA B0 pa s) {y : MethodName} {bytes : ByteArray} {maxL idx ci b d : Nat} {av fs : List Value} {T : u_T} {N : Nat}
    (hM : CT la D cA B0 pa y bytes maxL none (rmD d 0 0) (.ref b :: av) h (TP B Q' F' h)) (hL : LK y bytes maxL av.length none) (hl : Cond.methodLink own idx y ∈ WT) (hi : Cond.instanceMethod y ∈ WT) (hse : Cond.selects y.cls y y ∈ WT) (hR : d + 1 ≤ R.frames ∧ 8 + (maxL + 11) + 40 * d ≤ R.locals) (hf : k ≤ R.cells ∧ n ≤ R.slots)
    (hc : vwCl[ci]? = some (y.cls, T, N)) (hb : h b = some (ci, fs)) (hW : (r.map fun v => v.category).sum ≤ 8) (hd : decode cc pc = .ok (.invokevirtual idx, 3))
    (kk : ∀ h' : AH, TS B Q' h' F' → FrT B Q' h h' → WS p la e R s m args below meth c Q D cA B0 nL (pc + 3) l r h' k n) : WS p la e R s m args below meth c Q D cA B0 nL pc l (av.reverse ++ .ref b :: r) h k n := by
  refine callV_ok (T := T) (N := N) X E hM hL hl hi hse hR hf hc hb hW hd ?_
  rintro _ h' ⟨rfl, S', f'⟩
  exact kk h' S' f'
end CT2
section S03
variable {la : Launch} {D : va_G} {cA : Nat → ClassId} {B0 pa : Nat} {B Q : Nat → Nat} {F : Nat → TC}
set_option maxHeartbeats 4000000 in
theorem s5_addRow (h : AH) (Y : LYO B Q) (S : TS B Q h F) {i : Nat} (hi : i < 52) {j : Nat} (hj : j < 52) (hij : j ≠ i) {a b : Nat} (hab : a ≤ b) (hb : b ≤ (F j).1.length) : CT la D cA B0 pa yX5_addRow cX5_addRow 5 none (rmD 1 0 0) [.ref (B i), .ref (B j), vI a, vI b] h (TP B Q (upF F i (addR (rmI i) (F i) (((F j).1.drop a).take (b - a)))) h) := by
  refine CT_of (by decide +kernel) (Nat.le_of_ble_eq_true rfl) ?_
  intro p e s m args below meth c X E hr hlk hnm
  have dk : ∀ {pc : Nat} {q : Instr × Nat}, lkd DX5_addRow pc = some q → decode cX5_addRow pc = .ok q := lkd_ok DX5_addRow_ok
  have hL := rmI_le j
  have hlen := (S j hj).1
  have loop : ∀ (d k : Nat) (t : TC) (h1 : AH), d = b - k → k ≤ b → TS B Q h1 (upF F i t) → FrT B Q h h1 → addR (rmI i) t (((F j).1.drop k).take (b - k)) = (addR (rmI i) (F i) (((F j).1.drop a).take (b - a))) → ∀ l : List (Nat × Value), lsel l [4, 3, 1, 0] = [(4, vI k), (3, vI b), (1, .ref (B j)), (0, .ref (B i))] → WR p la e (rmD 1 0 0) s m args below meth c D cA B0 5 (TP B Q (upF F i (addR (rmI i) (F i) (((F j).1.drop a).take (b - a)))) h) 3 l [] h1 0 0 := by
    intro d
    induction d with
    | zero =>
      intro k t h1 hd hk S1 f1 e l hl
      have hk2 : k = b := by omega
      subst hk2
      rw [Nat.sub_self, List.take_zero] at e
      have e2 : t = (addR (rmI i) (F i) (((F j).1.drop a).take (k - a))) := e
      rw [e2] at S1
      refine WS.sel [4, 3, 1, 0] hl ?_
      iterate 2 refine fst1_ok X (dk rfl) rfl ?_
      refine br_ok X (dk rfl) rfl (show ((6 : Nat) : Int) + 19 = ((25 : Nat) : Int) from rfl) (fun _ => ?_) (fun q => absurd (Int32.le_refl _) q)
      exact retv_ok X hr hlk (dk rfl) ⟨rfl, S1, f1⟩ (Nat.le_of_ble_eq_true rfl) (Nat.le_of_ble_eq_true rfl)
    | succ d ih =>
      intro k t h1 hd hk S1 f1 e l hl
      obtain ⟨x, hx⟩ : ∃ x, (F j).1[k]? = some x := ⟨_, List.getElem?_eq_getElem (by omega)⟩
      rw [dropc hx, show b - k = (b - (k + 1)) + 1 by omega, List.take_succ_cons] at e
      refine WS.sel [4, 3, 1, 0] hl ?_
      iterate 2 refine fst1_ok X (dk rfl) rfl ?_
      refine br_ok X (dk rfl) rfl (show ((6 : Nat) : Int) + 19 = ((25 : Nat) : Int) from rfl) (fun q => absurd q (nI_ge (by omega) (by omega))) (fun _ => ?_)
      iterate 3 refine fst1_ok X (dk rfl) rfl ?_
      refine callVR_ok (ci := 7) (T := TX5) (N := 3) (av := [vI k]) (r := [.ref (B i)]) X E (s5_letterAt h1 S1 hj (nI k)) lkX5_letterAt mlX5_29 lmX5_letterAt lpX5_letterAt ⟨Nat.le_of_ble_eq_true rfl, Nat.le_of_ble_eq_true rfl⟩ ⟨Nat.le_of_ble_eq_true rfl, Nat.le_of_ble_eq_true rfl⟩ rfl ⟨_, (S1 j hj).2.1⟩ (Nat.le_of_ble_eq_true rfl) (dk rfl) ?_
      rintro _ rfl
      rw [upF_ne _ _ hij, ltX_nI (by omega) hx]
      refine callVT_ok (ci := 7) (T := TX5) (N := 3) (av := [.int x]) (r := []) X E (s5_add h1 Y S1 hi x) lkX5_add mlX5_33 lmX5_add lpX5_add ⟨Nat.le_of_ble_eq_true rfl, Nat.le_of_ble_eq_true rfl⟩ ⟨Nat.le_of_ble_eq_true rfl, Nat.le_of_ble_eq_true rfl⟩ rfl (S1 i hi).2.1 (Nat.le_of_ble_eq_true rfl) (dk rfl) (fun h2 S2 f2 => ?_)
      rw [upF_self, upF_up] at S2
      refine fst1_ok X (dk rfl) rfl ?_
      refine br_ok X (dk rfl) rfl (show ((22 : Nat) : Int) + (-19) = ((3 : Nat) : Int) from rfl) (fun _ => ?_) (fun q => absurd trivial q)
      have f3 : Value.int (nI k + Int32.ofInt 1) = vI (k + 1) := congrArg Value.int (by rw [nI_1', nI_add])
      refine WS.sel (l' := [(4, vI (k + 1)), (3, vI b), (1, .ref (B j)), (0, .ref (B i))]) [4, 3, 1, 0] (by rw [← f3]; rfl) ?_
      exact ih (k + 1) (addC (rmI i) t x) h2 (by omega) (by omega) S2 (f1.trans f2) e _ rfl
  iterate 2 refine fst1_ok X (dk rfl) rfl ?_
  exact loop _ a (F i) h rfl hab (by rw [upF_same]; exact S) (FrT.rf h) rfl _ rfl
set_option maxHeartbeats 8000000 in
theorem s5_addTerm (h : AH) (Y : LYO B Q) (S : TS B Q h F) {i : Nat} (hi : i < 52) {j : Nat} (hj : j < 52) (hij : j ≠ i) : CT la D cA B0 pa yX5_addTerm cX5_addTerm 3 none (rmD 1 0 0) [.ref (B i), .ref (B j)] h (TP B Q (upF F i (addT (rmI i) (F i) (F j))) h) := by
  refine CT_of (by decide +kernel) (Nat.le_of_ble_eq_true rfl) ?_
  intro p e s m args below meth c X E hr hlk hnm
  have dk : ∀ {pc : Nat} {q : Instr × Nat}, lkd DX5_addTerm pc = some q → decode cX5_addTerm pc = .ok q := lkd_ok DX5_addTerm_ok
  have hL := rmI_le j
  have hlen := (S j hj).1
  have fin : ∀ (t : TC) (h1 : AH), TS B Q h1 (upF F i t) → FrT B Q h h1 → t = addR (rmI i) (F i) (F j).1 → ∀ (bb : Bool), bb = (t.2 || (F j).2) → ∀ l : List (Nat × Value), WR p la e (rmD 1 0 0) s m args below meth c D cA B0 3 (TP B Q (upF F i (addT (rmI i) (F i) (F j))) h) 45 l [.int (bI bb), .ref (B i)] h1 0 0 := by
    intro t h1 S1 f1 et bb hbb l
    obtain ⟨a1, a2, xs, a3, a4, a5⟩ := S1 i hi
    rw [upF_self] at a1 a2 a5
    refine putf_ok X flX5_25 ftX5_2 (Or.inl rfl) (bI_n bb) (by cases bb <;> rfl) (dk rfl) a2 (Nat.le_of_ble_eq_true rfl) ?_
    have S2 := TS.fld (t := (t.1, bb)) Y S1 hi a1 a3 a4 a5
    rw [upF_up] at S2
    have e2 : ((t.1, bb) : TC) = (addT (rmI i) (F i) (F j)) := by
      unfold addT
      rw [← et, hbb]
    rw [← e2]
    exact retv_ok X hr hlk (dk rfl) ⟨rfl, S2, f1.setB hi _⟩ (Nat.le_of_ble_eq_true rfl) (Nat.le_of_ble_eq_true rfl)
  have loop : ∀ (d k : Nat) (t : TC) (h1 : AH), d = (F j).1.length - k → k ≤ (F j).1.length → TS B Q h1 (upF F i t) → FrT B Q h h1 → addR (rmI i) t ((F j).1.drop k) = addR (rmI i) (F i) (F j).1 → ∀ l : List (Nat × Value), lsel l [2, 1, 0] = [(2, vI k), (1, .ref (B j)), (0, .ref (B i))] → WR p la e (rmD 1 0 0) s m args below meth c D cA B0 3 (TP B Q (upF F i (addT (rmI i) (F i) (F j))) h) 2 l [] h1 0 0 := by
    intro d
    induction d with
    | zero =>
      intro k t h1 hd hk S1 f1 e l hl
      have hk2 : k = (F j).1.length := by omega
      rw [hk2, List.drop_length] at e
      have e2 : t = addR (rmI i) (F i) (F j).1 := e
      obtain ⟨c1, c2, -⟩ := S1 j hj
      rw [upF_ne _ _ hij] at c2
      obtain ⟨b1, b2, -⟩ := S1 i hi
      rw [upF_self] at b2
      refine WS.sel [2, 1, 0] hl ?_
      iterate 2 refine fst1_ok X (dk rfl) rfl ?_
      refine getf_ok X flX5_21 (dk rfl) c2 rfl ?_
      refine br_ok X (dk rfl) rfl (show ((7 : Nat) : Int) + 18 = ((25 : Nat) : Int) from rfl) (fun _ => ?_) (fun q => absurd (by rw [hk2]; exact Int32.le_refl _) q)
      iterate 2 refine fst1_ok X (dk rfl) rfl ?_
      refine getf_ok X flX5_25 (dk rfl) b2 rfl ?_
      cases hb : t.2 with
      | true =>
        refine br_ok X (dk rfl) rfl (show ((30 : Nat) : Int) + 10 = ((40 : Nat) : Int) from rfl) (fun _ => ?_) (fun q => absurd bI_t q)
        refine fst1_ok X (dk rfl) rfl ?_
        refine br_ok X (dk rfl) rfl (show ((41 : Nat) : Int) + 4 = ((45 : Nat) : Int) from rfl) (fun _ => ?_) (fun q => absurd trivial q)
        exact fin t h1 S1 f1 e2 true (by rw [hb]; rfl) _
      | false =>
        refine br_ok X (dk rfl) rfl (show ((30 : Nat) : Int) + 10 = ((40 : Nat) : Int) from rfl) (fun q => absurd q bI_f) (fun _ => ?_)
        refine fst1_ok X (dk rfl) rfl ?_
        refine getf_ok X flX5_25 (dk rfl) c2 rfl ?_
        cases hb2 : (F j).2 with
        | false =>
          refine br_ok X (dk rfl) rfl (show ((37 : Nat) : Int) + 7 = ((44 : Nat) : Int) from rfl) (fun _ => ?_) (fun q => absurd bI_f' q)
          refine fst1_ok X (dk rfl) rfl ?_
          exact fin t h1 S1 f1 e2 false (by rw [hb, hb2]; rfl) _
        | true =>
          refine br_ok X (dk rfl) rfl (show ((37 : Nat) : Int) + 7 = ((44 : Nat) : Int) from rfl) (fun q => absurd q bI_t) (fun _ => ?_)
          refine fst1_ok X (dk rfl) rfl ?_
          refine br_ok X (dk rfl) rfl (show ((41 : Nat) : Int) + 4 = ((45 : Nat) : Int) from rfl) (fun _ => ?_) (fun q => absurd trivial q)
          exact fin t h1 S1 f1 e2 true (by rw [hb, hb2]; rfl) _
    | succ d ih =>
      intro k t h1 hd hk S1 f1 e l hl
      obtain ⟨x, hx⟩ : ∃ x, (F j).1[k]? = some x := ⟨_, List.getElem?_eq_getElem (by omega)⟩
      rw [dropc hx] at e
      obtain ⟨c1, c2, -⟩ := S1 j hj
      rw [upF_ne _ _ hij] at c2
      refine WS.sel [2, 1, 0] hl ?_
      iterate 2 refine fst1_ok X (dk rfl) rfl ?_
      refine getf_ok X flX5_21 (dk rfl) c2 rfl ?_
      refine br_ok X (dk rfl) rfl (show ((7 : Nat) : Int) + 18 = ((25 : Nat) : Int) from rfl) (fun q => absurd q (nI_ge (by omega) (by omega))) (fun _ => ?_)
      iterate 3 refine fst1_ok X (dk rfl) rfl ?_
      refine callVR_ok (ci := 7) (T := TX5) (N := 3) (av := [vI k]) (r := [.ref (B i)]) X E (s5_letterAt h1 S1 hj (nI k)) lkX5_letterAt mlX5_29 lmX5_letterAt lpX5_letterAt ⟨Nat.le_of_ble_eq_true rfl, Nat.le_of_ble_eq_true rfl⟩ ⟨Nat.le_of_ble_eq_true rfl, Nat.le_of_ble_eq_true rfl⟩ rfl ⟨_, (S1 j hj).2.1⟩ (Nat.le_of_ble_eq_true rfl) (dk rfl) ?_
      rintro _ rfl
      rw [upF_ne _ _ hij, ltX_nI (by omega) hx]
      refine callVT_ok (ci := 7) (T := TX5) (N := 3) (av := [.int x]) (r := []) X E (s5_add h1 Y S1 hi x) lkX5_add mlX5_33 lmX5_add lpX5_add ⟨Nat.le_of_ble_eq_true rfl, Nat.le_of_ble_eq_true rfl⟩ ⟨Nat.le_of_ble_eq_true rfl, Nat.le_of_ble_eq_true rfl⟩ rfl (S1 i hi).2.1 (Nat.le_of_ble_eq_true rfl) (dk rfl) (fun h2 S2 f2 => ?_)
      rw [upF_self, upF_up] at S2
      refine fst1_ok X (dk rfl) rfl ?_
      refine br_ok X (dk rfl) rfl (show ((22 : Nat) : Int) + (-20) = ((2 : Nat) : Int) from rfl) (fun _ => ?_) (fun q => absurd trivial q)
      have f3 : Value.int (nI k + Int32.ofInt 1) = vI (k + 1) := congrArg Value.int (by rw [nI_1', nI_add])
      refine WS.sel (l' := [(2, vI (k + 1)), (1, .ref (B j)), (0, .ref (B i))]) [2, 1, 0] (by rw [← f3]; rfl) ?_
      exact ih (k + 1) (addC (rmI i) t x) h2 (by omega) (by omega) S2 (f1.trans f2) e _ rfl
  iterate 2 refine fst1_ok X (dk rfl) rfl ?_
  exact loop _ 0 (F i) h rfl (Nat.zero_le _) (by rw [upF_same]; exact S) (FrT.rf h) (by rw [List.drop_zero]) _ rfl
set_option maxHeartbeats 4000000 in
theorem s5_becomeName (h : AH) (Y : LYO B Q) (S : TS B Q h F) {i : Nat} (hi : i < 52) (x : Int32) : CT la D cA B0 pa yX5_becomeName cX5_becomeName 2 none (rmD 1 0 0) [.ref (B i), .int x] h (TP B Q (upF F i ([x], false)) h) := by
  refine CT_of (by decide +kernel) (Nat.le_of_ble_eq_true rfl) ?_
  intro p e s m args below meth c X E hr hlk hnm
  have dk : ∀ {pc : Nat} {q : Instr × Nat}, lkd DX5_becomeName pc = some q → decode cX5_becomeName pc = .ok q := lkd_ok DX5_becomeName_ok
  refine fst1_ok X (dk rfl) rfl ?_
  refine callVT_ok (ci := 7) (T := TX5) (N := 3) (av := []) (r := []) X E (s5_empty h Y S hi) lkX5_empty mlX5_37 lmX5_empty lpX5_empty ⟨Nat.le_of_ble_eq_true rfl, Nat.le_of_ble_eq_true rfl⟩ ⟨Nat.le_of_ble_eq_true rfl, Nat.le_of_ble_eq_true rfl⟩ rfl (S i hi).2.1 (Nat.le_of_ble_eq_true rfl) (dk rfl) (fun h1 S1 f1 => ?_)
  iterate 2 refine fst1_ok X (dk rfl) rfl ?_
  refine callVT_ok (ci := 7) (T := TX5) (N := 3) (av := [.int x]) (r := []) X E (s5_add h1 Y S1 hi x) lkX5_add mlX5_33 lmX5_add lpX5_add ⟨Nat.le_of_ble_eq_true rfl, Nat.le_of_ble_eq_true rfl⟩ ⟨Nat.le_of_ble_eq_true rfl, Nat.le_of_ble_eq_true rfl⟩ rfl (S1 i hi).2.1 (Nat.le_of_ble_eq_true rfl) (dk rfl) (fun h2 S2 f2 => ?_)
  rw [upF_self, upF_up] at S2
  have e : addC (rmI i) ([], false) x = ([x], false) := if_pos (by have := rmI_ge i; show 0 < rmI i; omega)
  rw [e] at S2
  exact retv_ok X hr hlk (dk rfl) ⟨rfl, S2, f1.trans f2⟩ (Nat.le_of_ble_eq_true rfl) (Nat.le_of_ble_eq_true rfl)
set_option maxHeartbeats 4000000 in
theorem s5_becomeAs (h : AH) (Y : LYO B Q) (S : TS B Q h F) {i : Nat} (hi : i < 52) {j : Nat} (hj : j < 52) (hle : (F j).1.length ≤ rmI i) : CT la D cA B0 pa yX5_becomeAs cX5_becomeAs 2 none (rmD 2 0 0) [.ref (B i), .ref (B j)] h (TP B Q (upF F i (F j)) h) := by
  refine CT_of (by decide +kernel) (Nat.le_of_ble_eq_true rfl) ?_
  intro p e s m args below meth c X E hr hlk hnm
  have dk : ∀ {pc : Nat} {q : Instr × Nat}, lkd DX5_becomeAs pc = some q → decode cX5_becomeAs pc = .ok q := lkd_ok DX5_becomeAs_ok
  iterate 2 refine fst1_ok X (dk rfl) rfl ?_
  by_cases hij : j = i
  · subst hij
    refine br_ok X (dk rfl) rfl (show ((2 : Nat) : Int) + 12 = ((14 : Nat) : Int) from rfl) (fun _ => ?_) (fun q => absurd rfl q)
    rw [upF_same]
    exact retv_ok X hr hlk (dk rfl) ⟨rfl, S, FrT.rf h⟩ (Nat.le_of_ble_eq_true rfl) (Nat.le_of_ble_eq_true rfl)
  · refine br_ok X (dk rfl) rfl (show ((2 : Nat) : Int) + 12 = ((14 : Nat) : Int) from rfl) (fun q => absurd (Y.1 _ _ hj hi q) hij) (fun _ => ?_)
    refine fst1_ok X (dk rfl) rfl ?_
    refine callVT_ok (ci := 7) (T := TX5) (N := 3) (av := []) (r := []) X E (s5_empty h Y S hi) lkX5_empty mlX5_37 lmX5_empty lpX5_empty ⟨Nat.le_of_ble_eq_true rfl, Nat.le_of_ble_eq_true rfl⟩ ⟨Nat.le_of_ble_eq_true rfl, Nat.le_of_ble_eq_true rfl⟩ rfl (S i hi).2.1 (Nat.le_of_ble_eq_true rfl) (dk rfl) (fun h1 S1 f1 => ?_)
    iterate 2 refine fst1_ok X (dk rfl) rfl ?_
    refine callVT_ok (ci := 7) (T := TX5) (N := 3) (av := [.ref (B j)]) (r := []) X E (s5_addTerm h1 Y S1 hi hj hij) lkX5_addTerm mlX5_40 lmX5_addTerm lpX5_addTerm ⟨Nat.le_of_ble_eq_true rfl, Nat.le_of_ble_eq_true rfl⟩ ⟨Nat.le_of_ble_eq_true rfl, Nat.le_of_ble_eq_true rfl⟩ rfl (S1 i hi).2.1 (Nat.le_of_ble_eq_true rfl) (dk rfl) (fun h2 S2 f2 => ?_)
    rw [upF_self, upF_up, upF_ne _ _ hij] at S2
    have e : addT (rmI i) ([], false) (F j) = F j := by
      rw [addT_fit (by simpa using hle)]
      exact Prod.ext (List.nil_append _) (Bool.false_or _)
    rw [e] at S2
    exact retv_ok X hr hlk (dk rfl) ⟨rfl, S2, f1.trans f2⟩ (Nat.le_of_ble_eq_true rfl) (Nat.le_of_ble_eq_true rfl)
set_option maxHeartbeats 4000000 in
theorem s5_becomeBoth (h : AH) (Y : LYO B Q) (S : TS B Q h F) {i : Nat} (hi : i < 52) {j : Nat} (hj : j < 52) (hij : j ≠ i) {k : Nat} (hk : k < 52) (hik : k ≠ i) (hle : (F j).1.length + (F k).1.length ≤ rmI i) : CT la D cA B0 pa yX5_becomeBoth cX5_becomeBoth 3 none (rmD 2 0 0) [.ref (B i), .ref (B j), .ref (B k)] h (TP B Q (upF F i ((F j).1 ++ (F k).1, (F j).2 || (F k).2)) h) := by
  refine CT_of (by decide +kernel) (Nat.le_of_ble_eq_true rfl) ?_
  intro p e s m args below meth c X E hr hlk hnm
  have dk : ∀ {pc : Nat} {q : Instr × Nat}, lkd DX5_becomeBoth pc = some q → decode cX5_becomeBoth pc = .ok q := lkd_ok DX5_becomeBoth_ok
  refine fst1_ok X (dk rfl) rfl ?_
  refine callVT_ok (ci := 7) (T := TX5) (N := 3) (av := []) (r := []) X E (s5_empty h Y S hi) lkX5_empty mlX5_37 lmX5_empty lpX5_empty ⟨Nat.le_of_ble_eq_true rfl, Nat.le_of_ble_eq_true rfl⟩ ⟨Nat.le_of_ble_eq_true rfl, Nat.le_of_ble_eq_true rfl⟩ rfl (S i hi).2.1 (Nat.le_of_ble_eq_true rfl) (dk rfl) (fun h1 S1 f1 => ?_)
  iterate 2 refine fst1_ok X (dk rfl) rfl ?_
  refine callVT_ok (ci := 7) (T := TX5) (N := 3) (av := [.ref (B j)]) (r := []) X E (s5_addTerm h1 Y S1 hi hj hij) lkX5_addTerm mlX5_40 lmX5_addTerm lpX5_addTerm ⟨Nat.le_of_ble_eq_true rfl, Nat.le_of_ble_eq_true rfl⟩ ⟨Nat.le_of_ble_eq_true rfl, Nat.le_of_ble_eq_true rfl⟩ rfl (S1 i hi).2.1 (Nat.le_of_ble_eq_true rfl) (dk rfl) (fun h2 S2 f2 => ?_)
  rw [upF_self, upF_up, upF_ne _ _ hij, addT_fit (by show 0 + _ ≤ _; omega)] at S2
  iterate 2 refine fst1_ok X (dk rfl) rfl ?_
  refine callVT_ok (ci := 7) (T := TX5) (N := 3) (av := [.ref (B k)]) (r := []) X E (s5_addTerm h2 Y S2 hi hk hik) lkX5_addTerm mlX5_40 lmX5_addTerm lpX5_addTerm ⟨Nat.le_of_ble_eq_true rfl, Nat.le_of_ble_eq_true rfl⟩ ⟨Nat.le_of_ble_eq_true rfl, Nat.le_of_ble_eq_true rfl⟩ rfl (S2 i hi).2.1 (Nat.le_of_ble_eq_true rfl) (dk rfl) (fun h3 S3 f3 => ?_)
  rw [upF_self, upF_up, upF_ne _ _ hik, addT_fit (by show ([] ++ (F j).1).length + _ ≤ _; rw [List.nil_append]; omega)] at S3
  have e : ((([] ++ (F j).1 : List Int32), (false || (F j).2)) : TC) = F j := Prod.ext (List.nil_append _) (Bool.false_or _)
  have S4 : TS B Q h3 (upF F i ((F j).1 ++ (F k).1, (F j).2 || (F k).2)) := by
    have e2 : (false || (F j).2) = (F j).2 := Bool.false_or _
    rw [List.nil_append] at S3
    rw [e2] at S3
    exact S3
  exact retv_ok X hr hlk (dk rfl) ⟨rfl, S4, (f1.trans f2).trans f3⟩ (Nat.le_of_ble_eq_true rfl) (Nat.le_of_ble_eq_true rfl)
end S03
end Uc03rows
