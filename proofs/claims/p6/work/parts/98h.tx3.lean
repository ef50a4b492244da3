/-! texts: weak contracts of the builder and of strings (printed by wip/p40/genTy.py) -/
/-- a text whose row is not the row v -/
def StrS (D : va_G) (h : AH) (sa v n : Nat) : Prop := ∃ va, StrC D sa va n ∨ (StrH h sa va n ∧ va ≠ v)
theorem StrS.to {D : va_G} {h : AH} {sa v n : Nat} (S : StrS D h sa v n) : StrA D h sa n := by
  obtain ⟨va, S | S⟩ := S
  · exact ⟨va, Or.inl S⟩
  · exact ⟨va, Or.inr S.1⟩
theorem StrS.kept {D : va_G} {h h1 : AH} {sa b v n m nn : Nat} (S : StrS D h sa v nn) (B : SBp h b v n m) {B0 : Nat} (hk : SBG B0 h h1 b v) : StrA D h1 sa nn := by
  obtain ⟨t, bs, hb, hv, -⟩ := B
  obtain ⟨va, S | ⟨⟨x, y, ts, h2, h3, h4⟩, hne⟩⟩ := S
  · exact ⟨va, Or.inl S⟩
  · exact ⟨va, Or.inr ⟨x, y, ts, hk _ _ (fun z => by rw [z, hb] at h2; cases h2) (fun z => by rw [z, hv] at h2; cases h2) h2, hk _ _ (fun z => by rw [z, hb] at h3; cases h3) hne h3, h4⟩⟩
/-- a new text -/
def StrN (h : AH) (n : Nat) (r : Option Value) (h' : AH) : Prop := ∃ sa va, r = some (.ref sa) ∧ StrH h' sa va n ∧ h sa = none ∧ h va = none ∧ ∀ (a : Nat) (c : AC), h a = some c → h' a = some c
section TX3
variable {p : Program} {la : Launch} {e : Env} {R : Room} {s : State} {m : MethodId} {args : Array Value} {below : List Frame} {meth : Method} {c : Code} {Q : State → Prop}
variable {D : va_G} {cA : Nat → ClassId} {B0 pa nL : Nat} {cc : ByteArray} {own : String} {pc k n : Nat} {l : List (Nat × Value)} {r : List Value} {h : AH}
theorem i2b_ok (X : CX p s m args c D cA B0 nL cc own) {x : Int32} (hd : decode cc pc = .ok (.i2b, 1))
    (kk : ∀ y : Int32, WS p la e R s m args below meth c Q D cA B0 nL (pc + 1) l (.int y :: r) h k n) : WS p la e R s m args below meth c Q D cA B0 nL pc l (.int x :: r) h k n :=
  fun H locs ls hH hls => lv_i2b X.1 X.2.1 hd rfl (kk _ H locs ls hH hls)
/-- an overriding method -/
theorem callO_ok (X : CX p s m args c D cA B0 nL cc own) (E : EN D cA B0 pa s) {x y : MethodName} {C : String} {bytes b0 : ByteArray} {maxL m0 idx ci b : Nat} {ret r0 : Option FieldType} {rm : Room} {av fs : List Value} {T : u_T} {N : Nat} {post : Option Value → AH → Prop}
    (hM : CT la D cA B0 pa y bytes maxL ret rm (.ref b :: av) h post) (hL : LK y bytes maxL av.length ret) (hL0 : LK x b0 m0 av.length r0) (hl : Cond.methodLink own idx x ∈ WT) (hsm : Cond.sameMethod x.cls x.cls x.name x.desc ∈ WT) (hse : Cond.selects C x y ∈ WT) (hi0 : Cond.instanceMethod x ∈ WT) (hi : Cond.instanceMethod y ∈ WT) (hR : rm.frames + 1 ≤ R.frames ∧ 8 + (maxL + 11) + rm.locals ≤ R.locals) (hf : k + rm.cells ≤ R.cells ∧ n + rm.slots ≤ R.slots)
    (hc : vwCl[ci]? = some (C, T, N)) (hb : h b = some (ci, fs))
    (hW : (r.map fun v => v.category).sum ≤ 8) (hd : decode cc pc = .ok (.invokevirtual idx, 3))
    (kk : ∀ (v : Option Value) (h' : AH), post v h' → WS p la e R s m args below meth c Q D cA B0 nL (pc + 3) l (v.toList ++ r) h' (k + rm.cells) (n + rm.slots)) : WS p la e R s m args below meth c Q D cA B0 nL pc l (av.reverse ++ .ref b :: r) h k n := by
  have g : ∀ w, w ∈ WT → w ∈ WT ∧ ((w.onTables && w.keeps) = true ∨ ∃ ty, w = .arrayClass ty) := fun w h => ⟨h, good_of_word (WT_good _ h)⟩
  have hT : GoodIn WT (va_wsO own idx C x.cls x y (Cond.code y bytes maxL ret :: WT)) := by
    intro w hw
    simp only [va_wsO, List.mem_append, List.mem_cons, List.not_mem_nil, or_false] at hw
    rcases hw with (hw | hw | hw | hw | hw | hw) | hw | hw
    · subst hw; exact g _ hl
    · subst hw; exact g _ hsm
    · subst hw; exact g _ hi0
    · subst hw; exact g _ hse
    · subst hw; exact g _ hi
    · subst hw; exact g _ hL.2.1
    · subst hw; exact g _ hL.1
    · exact g _ hw
  refine run_ok (idx := idx) (As := (Value.ref b :: av).toArray) X.2.2.2.2.2.2 (fun H locs ls hH hls => va_runU (C := C) (owner := x.cls) (x := x) (fix_ok X) hM (va_cwO av.length X.2.2.2.2.1 hT rfl rfl rfl hL0.1 ⟨hL0.2.2.1.1, hL0.2.2.1.2, hL0.2.2.2⟩ hR) ⟨PC_blind, ?_, (preS_of X E hH (.ref b :: av)).2⟩ rfl rfl hls.1 rfl (lv_room hW) hd hf) kk
  obtain ⟨r1, g0, -, cell, g1, g2, g3, -⟩ := (hH.1 b _ hb).2.1 (vwCl_lt hc)
  exact ⟨cell, g1, by rw [g3]; rfl, by rw [g2]; exact (X.2.2.2.2.2.1.1.1 ci _ hc).2.1⟩
theorem nI_subLe {t m : Nat} (h : t ≤ m) (hm : m < 2 ^ 20) : nI t - nI m ≤ 0 := by
  rw [Int32.le_iff_toInt_le, Int32.toInt_sub]
  have h1 : (nI t).toInt = t := by rw [nn32 _ (nI_pos (by omega)), nI_clamp (by omega)]
  have h2 : (nI m).toInt = m := by rw [nn32 _ (nI_pos (by omega)), nI_clamp (by omega)]
  rw [h1, h2, show (0 : Int32).toInt = 0 from rfl]
  have : ((t : Int) - m).bmod (2 ^ 32) = (t : Int) - m := by
    apply Int.bmod_eq_of_le <;> omega
  omega
theorem nI_ltK {t : Nat} (ht : t < 2 ^ 20) : nI t < 2147483639 := by
  rw [show (2147483639 : Int32) = nI 2147483639 by decide]
  exact (nI_ltI (by omega) (by decide)).mpr (by omega)
theorem nI_ltM {t : Nat} (ht : t < 2 ^ 20) : nI t < 2147483647 := by
  rw [show (2147483647 : Int32) = nI 2147483647 by decide]
  exact (nI_ltI (by omega) (by decide)).mpr (by omega)
theorem nI_inj {a b : Nat} (ha : a < 2 ^ 31) (hb : b < 2 ^ 31) (e : nI a = nI b) : a = b := by
  have := congrArg Int32.toNatClampNeg e
  rwa [nI_clamp ha, nI_clamp hb] at this
theorem nI_self (x : Int32) : nI x.toUInt32.toNat = x := by
  show (⟨UInt32.ofNat x.toUInt32.toNat⟩ : Int32) = x
  rw [UInt32.ofNat_toNat]
theorem andc (x : Int32) : ∃ c0 : Nat, c0 < 256 ∧ x &&& (Int16.ofInt 255).toInt32 = nI c0 := by
  refine ⟨(x &&& (Int16.ofInt 255).toInt32).toUInt32.toNat, ?_, ?_⟩
  · have h1 : (x &&& (Int16.ofInt 255).toInt32).toUInt32 = x.toUInt32 &&& 255 := rfl
    rw [h1, UInt32.toNat_and]
    exact Nat.lt_of_le_of_lt Nat.and_le_right (by decide)
  · exact (nI_self _).symm
theorem i2cN {c0 : Nat} (h : c0 < 256) : ((nI c0).toUInt32 % 65536).toInt32 = nI c0 := by
  have h1 : (nI c0).toUInt32 = UInt32.ofNat c0 := rfl
  have h2 : (nI c0).toUInt32 % 65536 = UInt32.ofNat c0 := by
    rw [h1]
    apply UInt32.toNat.inj
    rw [UInt32.toNat_mod, UInt32.toNat_ofNat', show (65536 : UInt32).toNat = 65536 from rfl]
    omega
  rw [h2]
  rfl
theorem nchar {c0 : Nat} (h : c0 < 256) : narrow .char (.int (nI c0)) = .int (nI c0) := by
  show Value.int _ = _
  exact congrArg Value.int (i2cN h)
/-- a letter of a constant text -/
theorem lld_ok (X : CX p s m args c D cA B0 nL cc own) (E : EN D cA B0 pa s) {i : Nat} (hi : i < 5) {j : Nat} (hj : j < scL.getD i 0) (hd : decode cc pc = .ok (.baload, 1))
    (kk : ∀ x : Int32, WS p la e R s m args below meth c Q D cA B0 nL (pc + 1) l (.int x :: r) h k n) : WS p la e R s m args below meth c Q D cA B0 nL pc l (vI j :: .ref (D.2 51 i) :: r) h k n := by
  have hL := scL_le i hi
  intro H locs ls hH hls
  refine va_tb X.1 X.2.1 (E.2.2.2.1.2.2.2.2.2.2.2.1.1 i hi).2.2.2 hH.2 (i := nI j) ?_ rfl hd (kk _ H locs ls hH hls)
  rintro (q | q)
  · exact nI_pos (by omega) q
  · rw [nI_clamp (by omega)] at q
    omega
end TX3
section M98h
variable {la : Launch} {D : va_G} {cA : Nat → ClassId} {B0 pa : Nat}
theorem t_lat (h : AH) {b v n mm : Nat} (B : SBp h b v n mm) : CT la D cA B0 pa yJ5_isLatin1_aae02 cJ5_isLatin1_aae02 1 (some .boolean) (rmD 0 0 0) [.ref b] h (fun r h' => r = some (.int 1) ∧ h' = h) := by
  refine CT_of (by decide +kernel) (Nat.le_of_ble_eq_true rfl) ?_
  intro p e s m args below meth c X E hr hlk hnm
  have dk : ∀ {pc : Nat} {q : Instr × Nat}, lkd DJ5_isLatin1_aae02 pc = some q → decode cJ5_isLatin1_aae02 pc = .ok q := lkd_ok DJ5_isLatin1_aae02_ok
  obtain ⟨t0, bs, hb, hv, hl, hf, hnm2, hm⟩ := id B
  refine getsC_ok X E glJ5_18 (dk rfl) ?_
  refine br_ok X (dk rfl) rfl (show ((3 : Nat) : Int) + 14 = ((17 : Nat) : Int) from rfl) (fun q => absurd q (by decide)) (fun _ => ?_)
  refine fst1_ok X (dk rfl) rfl ?_
  refine getfI_ok X flJ5_22 (dk rfl) hb rfl ?_
  refine br_ok X (dk rfl) rfl (show ((10 : Nat) : Int) + 7 = ((17 : Nat) : Int) from rfl) (fun q => absurd rfl q) (fun _ => ?_)
  refine fst1_ok X (dk rfl) rfl ?_
  refine br_ok X (dk rfl) rfl (show ((14 : Nat) : Int) + 4 = ((18 : Nat) : Int) from rfl) (fun _ => ?_) (fun q => absurd trivial q)
  exact reti_ok X hr hlk rfl (dk rfl) ⟨rfl, rfl⟩ (Nat.le_of_ble_eq_true rfl) (Nat.le_of_ble_eq_true rfl)
theorem t_can (h : AH) {c0 : Nat} (hc : c0 < 256) : CT la D cA B0 pa yJ1_canEncode_fc78d cJ1_canEncode_fc78d 1 (some .boolean) (rmD 0 0 0) [vI c0] h (fun r h' => r = some (.int 1) ∧ h' = h) := by
  refine CT_of (by decide +kernel) (Nat.le_of_ble_eq_true rfl) ?_
  intro p e s m args below meth c X E hr hlk hnm
  have dk : ∀ {pc : Nat} {q : Instr × Nat}, lkd DJ1_canEncode_fc78d pc = some q → decode cJ1_canEncode_fc78d pc = .ok q := lkd_ok DJ1_canEncode_fc78d_ok
  iterate 2 refine fst1_ok X (dk rfl) rfl ?_
  refine br_ok X (dk rfl) rfl (show ((4 : Nat) : Int) + 7 = ((11 : Nat) : Int) from rfl) (fun q => absurd ((nI_ltI (by omega) (by omega)).mp (i255 ▸ q)) (by omega)) (fun _ => ?_)
  refine fst1_ok X (dk rfl) rfl ?_
  refine br_ok X (dk rfl) rfl (show ((8 : Nat) : Int) + 4 = ((12 : Nat) : Int) from rfl) (fun _ => ?_) (fun q => absurd trivial q)
  exact reti_ok X hr hlk rfl (dk rfl) ⟨rfl, rfl⟩ (Nat.le_of_ble_eq_true rfl) (Nat.le_of_ble_eq_true rfl)
theorem t_nlen (h : AH) {ol mn pf : Nat} (h1 : ol < 2 ^ 18) (h2 : mn < 2 ^ 18) (h3 : pf < 2 ^ 18) (h4 : 0 < mn) : CT la D cA B0 pa yJ8_newLength_cabcc cJ8_newLength_cabcc 4 (some .int) (rmD 1 0 0) [vI ol, vI mn, vI pf] h (fun r h' => r = some (vI (ol + max mn pf)) ∧ h' = h) := by
  refine CT_of (by decide +kernel) (Nat.le_of_ble_eq_true rfl) ?_
  intro p e s m args below meth c X E hr hlk hnm
  have dk : ∀ {pc : Nat} {q : Instr × Nat}, lkd DJ8_newLength_cabcc pc = some q → decode cJ8_newLength_cabcc pc = .ok q := lkd_ok DJ8_newLength_cabcc_ok
  iterate 3 refine fst1_ok X (dk rfl) rfl ?_
  refine mmax_ok X (x := mn) (y := pf) (by omega) (by omega) mlJ8_194 (dk rfl) (by decide) (Nat.le_of_ble_eq_true rfl) (Nat.le_of_ble_eq_true rfl) (Nat.le_of_ble_eq_true rfl) ?_
  refine fst1_ok X (dk rfl) rfl ?_
  rw [nI_add]
  have hL : ol + max mn pf < 2 ^ 20 := by omega
  iterate 3 refine fst1_ok X (dk rfl) rfl ?_
  refine br_ok X (dk rfl) rfl (show ((10 : Nat) : Int) + 11 = ((21 : Nat) : Int) from rfl) (fun q => absurd (nI_le0 (by omega) q) (by omega)) (fun _ => ?_)
  refine fst1_ok X (dk rfl) rfl ?_
  refine ldc_ok X csJ8_200 (dk rfl) ?_
  refine br_ok X (dk rfl) rfl (show ((16 : Nat) : Int) + 5 = ((21 : Nat) : Int) from rfl) (fun q => absurd q (Int32.not_lt.mpr (Int32.le_of_lt (nI_ltK hL)))) (fun _ => ?_)
  refine fst1_ok X (dk rfl) rfl ?_
  exact reti_ok X hr hlk rfl (dk rfl) ⟨rfl, rfl⟩ (Nat.le_of_ble_eq_true rfl) (Nat.le_of_ble_eq_true rfl)
set_option maxHeartbeats 2000000 in
theorem t_ncap (h : AH) {b v n mm : Nat} (B : SBp h b v n mm) {t : Nat} (ht : mm < t) (ht2 : t ≤ 400) : CT la D cA B0 pa yJ5_newCapacity_0f7a4 cJ5_newCapacity_0f7a4 6 (some .int) (rmD 2 0 0) [.ref b, vI t] h (fun r h' => r = some (vI (mm + max (t - mm) (mm + 2))) ∧ h' = h) := by
  refine CT_of (by decide +kernel) (Nat.le_of_ble_eq_true rfl) ?_
  intro p e s m args below meth c X E hr hlk hnm
  have dk : ∀ {pc : Nat} {q : Instr × Nat}, lkd DJ5_newCapacity_0f7a4 pc = some q → decode cJ5_newCapacity_0f7a4 pc = .ok q := lkd_ok DJ5_newCapacity_0f7a4_ok
  obtain ⟨t0, bs, hb, hv, hl, hf, hnm2, hm⟩ := id B
  refine fst1_ok X (dk rfl) rfl ?_
  refine getfI_ok X flJ5_15 (dk rfl) hb rfl ?_
  refine alen_ok (kd := 102) (vs := bs.map Value.int) X (by decide) (dk rfl) hv ?_
  rw [List.length_map, hl]
  iterate 3 refine fst1_ok X (dk rfl) rfl ?_
  refine getfI_ok X flJ5_22 (dk rfl) hb rfl ?_
  refine fst1_ok X (dk rfl) rfl ?_
  rw [sl0]
  iterate 4 refine fst1_ok X (dk rfl) rfl ?_
  rw [nI_sub (by omega)]
  iterate 6 refine fst1_ok X (dk rfl) rfl ?_
  refine getfI_ok X flJ5_22 (dk rfl) hb rfl ?_
  refine fst1_ok X (dk rfl) rfl ?_
  rw [sl0]
  refine fst1_ok X (dk rfl) rfl ?_
  rw [nI_2, nI_add]
  refine callS_ok (av := [vI mm, vI (t - mm), vI (mm + 2)]) (r := []) X E (t_nlen h (by omega) (by omega) (by omega) (by omega)) lkJ8_newLength_cabcc mlJ5_114 lsJ8_newLength_cabcc ⟨Nat.le_of_ble_eq_true rfl, Nat.le_of_ble_eq_true rfl⟩ ⟨Nat.le_of_ble_eq_true rfl, Nat.le_of_ble_eq_true rfl⟩ (Nat.le_of_ble_eq_true rfl) (dk rfl) ?_
  rintro _ _ ⟨rfl, rfl⟩
  iterate 2 refine fst1_ok X (dk rfl) rfl ?_
  refine ldc_ok X csJ5_39 (dk rfl) ?_
  have hlt := nI_ltM (t := mm + max (t - mm) (mm + 2)) (by omega)
  refine br_ok X (dk rfl) rfl (show ((38 : Nat) : Int) + 13 = ((51 : Nat) : Int) from rfl) (fun _ => ?_) (fun q => absurd (fun z => absurd hlt (by rw [z]; exact fun w => Int32.lt_irrefl w)) q)
  iterate 2 refine fst1_ok X (dk rfl) rfl ?_
  refine getfI_ok X flJ5_22 (dk rfl) hb rfl ?_
  refine fst1_ok X (dk rfl) rfl ?_
  rw [sh0]
  exact reti_ok X hr hlk rfl (dk rfl) ⟨rfl, rfl⟩ (Nat.le_of_ble_eq_true rfl) (Nat.le_of_ble_eq_true rfl)
set_option maxHeartbeats 4000000 in
theorem t_copyOf (h : AH) {v N : Nat} {bs : List Int32} (hv : h v = some (102, bs.map Value.int)) (hf : BF bs) (hl : bs.length < N) (hN : N ≤ 1000) : CT la D cA B0 pa yJ7_copyOf_9075b cJ7_copyOf_9075b 3 (some (.array .byte)) (rmD 1 1 N) [.ref v, vI N] h (NewB B0 h N) := by
  refine CT_of (by decide +kernel) (Nat.le_of_ble_eq_true rfl) ?_
  intro p e s m args below meth c X E hr hlk hnm
  have dk : ∀ {pc : Nat} {q : Instr × Nat}, lkd DJ7_copyOf_9075b pc = some q → decode cJ7_copyOf_9075b pc = .ok q := lkd_ok DJ7_copyOf_9075b_ok
  iterate 2 refine fst1_ok X (dk rfl) rfl ?_
  refine alen_ok (kd := 102) (vs := bs.map Value.int) X (by decide) (dk rfl) hv ?_
  rw [List.length_map]
  refine br_ok X (dk rfl) rfl (show ((3 : Nat) : Int) + 11 = ((14 : Nat) : Int) from rfl) (fun _ => ?_) (fun q => absurd (fun z => absurd (nI_inj (by omega) (by omega) z) (by omega)) q)
  refine fst1_ok X (dk rfl) rfl ?_
  refine newab_ok X (dk rfl) (by omega) (Nat.le_of_ble_eq_true rfl) (by show 0 + N ≤ N; omega) (fun q hq hBq => ?_)
  have hvq : v ≠ q := fun z => by rw [z, hq] at hv; cases hv
  iterate 6 refine fst1_ok X (dk rfl) rfl ?_
  refine alen_ok (kd := 102) (vs := bs.map Value.int) X (by decide) (dk rfl) (by rw [hup_ne _ _ hvq]; exact hv) ?_
  rw [List.length_map]
  refine fst1_ok X (dk rfl) rfl ?_
  refine mmin_ok X (x := bs.length) (y := N) (by omega) (by omega) mlJ7_304 (dk rfl) (Nat.le_of_ble_eq_true rfl) (Nat.le_of_ble_eq_true rfl) (Nat.le_of_ble_eq_true rfl) (by show 0 + N ≤ N; omega) ?_
  refine acopyH (sp := 0) (dp := 0) (z := min bs.length N) X acpJ7 (by rw [hup_ne _ _ hvq]; exact hv) (hup_self _ _ _) hf (by omega) (by rw [List.length_replicate]; omega) (by omega) (by rw [List.length_replicate]; omega) (Nat.le_of_ble_eq_true rfl) (Nat.le_of_ble_eq_true rfl) (dk rfl) (fun gs hgl hgf => ?_)
  refine fst1_ok X (dk rfl) rfl ?_
  exact reta_ok X hr hlk (Or.inr ⟨_, rfl⟩) (Or.inr ⟨_, rfl⟩) (dk rfl) ⟨q, gs, rfl, hq, hBq, hup_self _ _ _, fun a ha => by rw [hup_ne _ _ ha, hup_ne _ _ ha], by rw [hgl, List.length_replicate], hgf (BF_zero _)⟩ (Nat.le_of_ble_eq_true rfl) (by show 0 + N ≤ N; omega)
set_option maxHeartbeats 4000000 in
theorem t_ens (h : AH) {b v n mm : Nat} (B : SBp h b v n mm) {t N : Nat} (ht : t ≤ N) (hN : N ≤ 400) : CT la D cA B0 pa yJ5_ensureCapacityInternal_d00df cJ5_ensureCapacityInternal_d00df 3 none (rmD 3 1 (2 * N)) [.ref b, vI t] h (fun r h' => r = none ∧ ∃ m', t ≤ m' ∧ SBQ B0 h b v n m' h') := by
  refine CT_of (by decide +kernel) (Nat.le_of_ble_eq_true rfl) ?_
  intro p e s m args below meth c X E hr hlk hnm
  have dk : ∀ {pc : Nat} {q : Instr × Nat}, lkd DJ5_ensureCapacityInternal_d00df pc = some q → decode cJ5_ensureCapacityInternal_d00df pc = .ok q := lkd_ok DJ5_ensureCapacityInternal_d00df_ok
  obtain ⟨t0, bs, hb, hv, hl, hf, hnm2, hm⟩ := id B
  refine fst1_ok X (dk rfl) rfl ?_
  refine getfI_ok X flJ5_15 (dk rfl) hb rfl ?_
  refine alen_ok (kd := 102) (vs := bs.map Value.int) X (by decide) (dk rfl) hv ?_
  rw [List.length_map, hl]
  refine fst1_ok X (dk rfl) rfl ?_
  refine getfI_ok X flJ5_22 (dk rfl) hb rfl ?_
  refine fst1_ok X (dk rfl) rfl ?_
  rw [sh0]
  iterate 4 refine fst1_ok X (dk rfl) rfl ?_
  by_cases hc : t ≤ mm
  · refine br_ok X (dk rfl) rfl (show ((14 : Nat) : Int) + 24 = ((38 : Nat) : Int) from rfl) (fun _ => ?_) (fun q => absurd (nI_subLe hc (by omega)) q)
    exact retv_ok X hr hlk (dk rfl) ⟨rfl, mm, hc, v, B, Or.inl rfl, fun _ _ _ _ g => g⟩ (Nat.le_of_ble_eq_true rfl) (Nat.zero_le _)
  · rw [nI_sub (by omega)]
    refine br_ok X (dk rfl) rfl (show ((14 : Nat) : Int) + 24 = ((38 : Nat) : Int) from rfl) (fun q => absurd (nI_le0 (by omega) q) (by omega)) (fun _ => ?_)
    iterate 2 refine fst1_ok X (dk rfl) rfl ?_
    refine getfI_ok X flJ5_15 (dk rfl) hb rfl ?_
    iterate 2 refine fst1_ok X (dk rfl) rfl ?_
    refine callU_ok (ci := 1) (T := TJ4) (N := 4) (C := RJ4) (av := [vI t]) (r := [.ref v, .ref b]) X E (t_ncap h B (t := t) (by omega) (by omega)) lkJ5_newCapacity_0f7a4 rfl mlJ5_104 smJ5_ncap slJ5_ncap lmJ5_newCapacity_0f7a4 ⟨Nat.le_of_ble_eq_true rfl, Nat.le_of_ble_eq_true rfl⟩ ⟨Nat.le_of_ble_eq_true rfl, Nat.zero_le _⟩ rfl hb (Nat.le_of_ble_eq_true rfl) (dk rfl) ?_
    rintro _ _ ⟨rfl, rfl⟩
    generalize hM : mm + max (t - mm) (mm + 2) = M
    have hM1 : mm < M ∧ t ≤ M ∧ M ≤ 2 * N := by omega
    refine fst1_ok X (dk rfl) rfl ?_
    refine getfI_ok X flJ5_22 (dk rfl) hb rfl ?_
    refine fst1_ok X (dk rfl) rfl ?_
    rw [sl0]
    refine callS_ok (av := [.ref v, vI M]) (r := [.ref b]) X E (t_copyOf _ hv hf (by omega) (by omega)) lkJ7_copyOf_9075b mlJ5_108 lsJ7_copyOf_9075b ⟨Nat.le_of_ble_eq_true rfl, Nat.le_of_ble_eq_true rfl⟩ ⟨Nat.le_of_ble_eq_true rfl, by show 0 + 0 + M ≤ 2 * N; omega⟩ (Nat.le_of_ble_eq_true rfl) (dk rfl) ?_
    rintro _ h2 ⟨q, bs2, rfl, hq, hBq, hq2, hk2, hl2, hf2⟩
    have hbq : b ≠ q := fun z => by rw [z, hq] at hb; cases hb
    have hb2 : h2 b = some (1, [.ref v, .int 0, t0, vI n]) := (hk2 b hbq).trans hb
    refine putfI_ok X flJ5_15 ftJ4_0 rfl rfl (dk rfl) hb2 (Nat.le_of_ble_eq_true rfl) ?_
    refine retv_ok X hr hlk (dk rfl) ⟨rfl, M, hM1.2.1, q, ⟨t0, bs2, hup_self _ _ _, by rw [hup_ne _ _ hbq.symm]; exact hq2, hl2, hf2, by omega, by omega⟩, Or.inr ⟨hq, hBq⟩, fun a c g1 g2 g3 => ?_⟩ (Nat.le_of_ble_eq_true rfl) (by show 0 + 0 + M ≤ 2 * N; omega)
    rw [hup_ne _ _ g1, hk2 a (fun z => by rw [z, hq] at g3; cases g3)]
    exact g3
set_option maxHeartbeats 8000000 in
theorem t_app (h : AH) {b v n mm : Nat} (B : SBp h b v n mm) {c0 N : Nat} (hc : c0 < 256) (ht : n + 1 ≤ N) (hN : N ≤ 400) : CT la D cA B0 pa yJ5_append_3fe6f cJ5_append_3fe6f 2 (some (.object "java/lang/AbstractStringBuilder")) (rmD 4 1 (2 * N)) [.ref b, vI c0] h (fun r h' => r = some (.ref b) ∧ ∃ m', SBQ B0 h b v (n + 1) m' h') := by
  refine CT_of (by decide +kernel) (Nat.le_of_ble_eq_true rfl) ?_
  intro p e s m args below meth c X E hr hlk hnm
  have dk : ∀ {pc : Nat} {q : Instr × Nat}, lkd DJ5_append_3fe6f pc = some q → decode cJ5_append_3fe6f pc = .ok q := lkd_ok DJ5_append_3fe6f_ok
  obtain ⟨t0, bs, hb, hv, hl, hf, hnm2, hm⟩ := id B
  iterate 2 refine fst1_ok X (dk rfl) rfl ?_
  refine getfI_ok X flJ5_79 (dk rfl) hb rfl ?_
  iterate 2 refine fst1_ok X (dk rfl) rfl ?_
  have e1 : Value.int (nI n + Int32.ofInt 1) = vI (n + 1) := congrArg Value.int (by rw [nI_1', nI_add])
  rw [e1]
  refine callU_ok (ci := 1) (T := TJ4) (N := 4) (C := RJ4) (av := [vI (n + 1)]) (r := []) X E (t_ens h B (t := n + 1) ht hN) lkJ5_ensureCapacityInternal_d00df rfl mlJ5_100 smJ5_ens slJ5_ens lmJ5_ensureCapacityInternal_d00df ⟨Nat.le_of_ble_eq_true rfl, Nat.le_of_ble_eq_true rfl⟩ ⟨Nat.le_of_ble_eq_true rfl, by show 0 + 2 * N ≤ 2 * N; omega⟩ rfl hb (Nat.le_of_ble_eq_true rfl) (dk rfl) ?_
  rintro _ h1 ⟨rfl, m1, hm1, v1, B1, hv1, hk1⟩
  obtain ⟨t1, bs1, hb1, hw1, hl1, hf1, hn1, hmm1⟩ := id B1
  have hne := B1.ne
  refine fst1_ok X (dk rfl) rfl ?_
  refine callU_ok (ci := 1) (T := TJ4) (N := 4) (C := RJ4) (av := []) (r := []) X E (t_lat h1 B1) lkJ5_isLatin1_aae02 rfl mlJ5_83 smJ5_lat slJ5_lat lmJ5_isLatin1_aae02 ⟨Nat.le_of_ble_eq_true rfl, Nat.le_of_ble_eq_true rfl⟩ ⟨Nat.le_of_ble_eq_true rfl, by show 0 + 2 * N + 0 ≤ 2 * N; omega⟩ rfl hb1 (Nat.le_of_ble_eq_true rfl) (dk rfl) ?_
  rintro _ _ ⟨rfl, rfl⟩
  refine br_ok X (dk rfl) rfl (show ((14 : Nat) : Int) + 31 = ((45 : Nat) : Int) from rfl) (fun q => absurd q (by decide)) (fun _ => ?_)
  refine fst1_ok X (dk rfl) rfl ?_
  refine callS_ok (av := [vI c0]) (r := []) X E (t_can _ hc) lkJ1_canEncode_fc78d mlJ5_191 lsJ1_canEncode_fc78d ⟨Nat.le_of_ble_eq_true rfl, Nat.le_of_ble_eq_true rfl⟩ ⟨Nat.le_of_ble_eq_true rfl, by show 0 + 2 * N + 0 + 0 ≤ 2 * N; omega⟩ (Nat.le_of_ble_eq_true rfl) (dk rfl) ?_
  rintro _ _ ⟨rfl, rfl⟩
  refine br_ok X (dk rfl) rfl (show ((21 : Nat) : Int) + 24 = ((45 : Nat) : Int) from rfl) (fun q => absurd q (by decide)) (fun _ => ?_)
  refine fst1_ok X (dk rfl) rfl ?_
  refine getfI_ok X flJ5_15 (dk rfl) hb1 rfl ?_
  iterate 2 refine fst1_ok X (dk rfl) rfl ?_
  refine getfI_ok X flJ5_79 (dk rfl) hb1 rfl ?_
  iterate 3 refine fst1_ok X (dk rfl) rfl ?_
  rw [e1]
  refine putfI_ok X flJ5_79 ftJ4_3 rfl rfl (dk rfl) hb1 (Nat.le_of_ble_eq_true rfl) ?_
  refine fst1_ok X (dk rfl) rfl ?_
  refine i2b_ok X (dk rfl) (fun y => ?_)
  refine bast_ok X (dk rfl) (by rw [hup_ne _ _ hne.symm]; exact hw1) (by omega) hf1 (by omega) (fun bs2 hl2 hf2 => ?_)
  refine br_ok X (dk rfl) rfl (show ((42 : Nat) : Int) + 33 = ((75 : Nat) : Int) from rfl) (fun _ => ?_) (fun q => absurd trivial q)
  refine fst1_ok X (dk rfl) rfl ?_
  refine reta_ok X hr hlk (Or.inl ⟨_, rfl⟩) (Or.inr ⟨_, rfl⟩) (dk rfl) ⟨rfl, m1, v1, ⟨t1, bs2, by rw [hup_ne _ _ hne]; exact hup_self _ _ _, hup_self _ _ _, by rw [hl2, hl1], hf2, hm1, hmm1⟩, hv1, fun a c g1 g2 g3 => ?_⟩ (Nat.le_of_ble_eq_true rfl) (by show 0 + 2 * N + 0 + 0 ≤ 2 * N; omega)
  have hav : a ≠ v1 := fun z => by
    rcases hv1 with w | w
    · exact g2 (z.trans w)
    · rw [z, w.1] at g3; cases g3
  rw [hup_ne _ _ hav, hup_ne _ _ g1]
  exact hk1 a c g1 g2 g3
set_option maxHeartbeats 2000000 in
theorem t_sapp (h : AH) {b v n mm : Nat} (B : SBp h b v n mm) {c0 N : Nat} (hc : c0 < 256) (ht : n + 1 ≤ N) (hN : N ≤ 400) : CT la D cA B0 pa yJ4_append_cf468 cJ4_append_cf468 2 (some (.object "java/lang/StringBuilder")) (rmD 5 1 (2 * N)) [.ref b, vI c0] h (fun r h' => r = some (.ref b) ∧ ∃ m', SBQ B0 h b v (n + 1) m' h') := by
  refine CT_of (by decide +kernel) (Nat.le_of_ble_eq_true rfl) ?_
  intro p e s m args below meth c X E hr hlk hnm
  have dk : ∀ {pc : Nat} {q : Instr × Nat}, lkd DJ4_append_cf468 pc = some q → decode cJ4_append_cf468 pc = .ok q := lkd_ok DJ4_append_cf468_ok
  obtain ⟨t0, bs, hb, hv, hl, hf, hnm2, hm⟩ := id B
  iterate 2 refine fst1_ok X (dk rfl) rfl ?_
  refine callSU_ok (ci := 1) (T := TJ4) (N := 4) (C := RJ4) (av := [vI c0]) (r := []) X E (t_app h B hc ht hN) lkJ5_append_3fe6f mlJ4_50 smJ5_app spJ4 lmJ5_append_3fe6f (by decide) ⟨Nat.le_of_ble_eq_true rfl, Nat.le_of_ble_eq_true rfl⟩ ⟨Nat.le_of_ble_eq_true rfl, by show 0 + 2 * N ≤ 2 * N; omega⟩ rfl hb (Nat.le_of_ble_eq_true rfl) (dk rfl) ?_
  rintro _ h1 ⟨rfl, P1⟩
  iterate 2 refine fst1_ok X (dk rfl) rfl ?_
  exact reta_ok X hr hlk (Or.inl ⟨_, rfl⟩) (Or.inr ⟨_, rfl⟩) (dk rfl) ⟨rfl, P1⟩ (Nat.le_of_ble_eq_true rfl) (by show 0 + 2 * N ≤ 2 * N; omega)
theorem t_coder (h : AH) {sa nn : Nat} (S : StrA D h sa nn) : CT la D cA B0 pa yJ0_coder_7d493 cJ0_coder_7d493 1 (some .byte) (rmD 0 0 0) [.ref sa] h (fun r h' => r = some (.int 0) ∧ h' = h) := by
  refine CT_of (by decide +kernel) (Nat.le_of_ble_eq_true rfl) ?_
  intro p e s m args below meth c X E hr hlk hnm
  have dk : ∀ {pc : Nat} {q : Instr × Nat}, lkd DJ0_coder_7d493 pc = some q → decode cJ0_coder_7d493 pc = .ok q := lkd_ok DJ0_coder_7d493_ok
  obtain ⟨va, hs⟩ := S
  refine getsC_ok X E glJ0_38 (dk rfl) ?_
  refine br_ok X (dk rfl) rfl (show ((3 : Nat) : Int) + 10 = ((13 : Nat) : Int) from rfl) (fun q => absurd q (by decide)) (fun _ => ?_)
  refine fst1_ok X (dk rfl) rfl ?_
  refine strK_ok X E hs (dk rfl) ?_
  refine br_ok X (dk rfl) rfl (show ((10 : Nat) : Int) + 4 = ((14 : Nat) : Int) from rfl) (fun _ => ?_) (fun q => absurd trivial q)
  exact reti_ok X hr hlk rfl (dk rfl) ⟨rfl, rfl⟩ (Nat.le_of_ble_eq_true rfl) (Nat.le_of_ble_eq_true rfl)
theorem t_slen (h : AH) {sa nn : Nat} (S : StrA D h sa nn) : CT la D cA B0 pa yJ0_length_8abf5 cJ0_length_8abf5 1 (some .int) (rmD 1 0 0) [.ref sa] h (fun r h' => r = some (vI nn) ∧ h' = h) := by
  refine CT_of (by decide +kernel) (Nat.le_of_ble_eq_true rfl) ?_
  intro p e s m args below meth c X E hr hlk hnm
  have dk : ∀ {pc : Nat} {q : Instr × Nat}, lkd DJ0_length_8abf5 pc = some q → decode cJ0_length_8abf5 pc = .ok q := lkd_ok DJ0_length_8abf5_ok
  obtain ⟨va, hs⟩ := id S
  refine fst1_ok X (dk rfl) rfl ?_
  refine strV_ok X E hs (dk rfl) ?_
  refine strL_ok X E hs (dk rfl) ?_
  refine fst1_ok X (dk rfl) rfl ?_
  refine callT_ok (av := []) (r := [vI nn]) X E hs (t_coder h S) lkJ0_coder_7d493 mlJ0_335 lmJ0_coder_7d493 lvJ0_coder_7d493 ⟨Nat.le_of_ble_eq_true rfl, Nat.le_of_ble_eq_true rfl⟩ ⟨Nat.le_of_ble_eq_true rfl, Nat.le_of_ble_eq_true rfl⟩ (Nat.le_of_ble_eq_true rfl) (dk rfl) ?_
  rintro _ _ ⟨rfl, rfl⟩
  refine fst1_ok X (dk rfl) rfl ?_
  rw [sh0]
  exact reti_ok X hr hlk rfl (dk rfl) ⟨rfl, rfl⟩ (Nat.le_of_ble_eq_true rfl) (Nat.le_of_ble_eq_true rfl)
theorem t_inf (h : AH) {b v n mm : Nat} (B : SBp h b v n mm) {sa nn : Nat} (S : StrA D h sa nn) : CT la D cA B0 pa yJ5_inflateIfNeededFor_a7421 cJ5_inflateIfNeededFor_a7421 2 none (rmD 1 0 0) [.ref b, .ref sa] h (fun r h' => r = none ∧ h' = h) := by
  refine CT_of (by decide +kernel) (Nat.le_of_ble_eq_true rfl) ?_
  intro p e s m args below meth c X E hr hlk hnm
  have dk : ∀ {pc : Nat} {q : Instr × Nat}, lkd DJ5_inflateIfNeededFor_a7421 pc = some q → decode cJ5_inflateIfNeededFor_a7421 pc = .ok q := lkd_ok DJ5_inflateIfNeededFor_a7421_ok
  obtain ⟨t0, bs, hb, hv, hl, hf, hnm2, hm⟩ := id B
  obtain ⟨va, hs⟩ := id S
  refine getsC_ok X E glJ5_18 (dk rfl) ?_
  refine br_ok X (dk rfl) rfl (show ((3 : Nat) : Int) + 18 = ((21 : Nat) : Int) from rfl) (fun q => absurd q (by decide)) (fun _ => ?_)
  refine fst1_ok X (dk rfl) rfl ?_
  refine getfI_ok X flJ5_22 (dk rfl) hb rfl ?_
  refine fst1_ok X (dk rfl) rfl ?_
  refine callT_ok (av := []) (r := [.int 0]) X E hs (t_coder h S) lkJ0_coder_7d493 mlJ5_40 lmJ0_coder_7d493 lvJ0_coder_7d493 ⟨Nat.le_of_ble_eq_true rfl, Nat.le_of_ble_eq_true rfl⟩ ⟨Nat.le_of_ble_eq_true rfl, Nat.le_of_ble_eq_true rfl⟩ (Nat.le_of_ble_eq_true rfl) (dk rfl) ?_
  rintro _ _ ⟨rfl, rfl⟩
  refine br_ok X (dk rfl) rfl (show ((14 : Nat) : Int) + 7 = ((21 : Nat) : Int) from rfl) (fun _ => ?_) (fun q => absurd rfl q)
  exact retv_ok X hr hlk (dk rfl) ⟨rfl, rfl⟩ (Nat.le_of_ble_eq_true rfl) (Nat.le_of_ble_eq_true rfl)
set_option maxHeartbeats 2000000 in
theorem t_getB (h : AH) {sa nn : Nat} (S : StrA D h sa nn) {v dp : Nat} {gs : List Int32} (hv : h v = some (102, gs.map Value.int)) (h5 : dp + nn ≤ gs.length) (hg : gs.length ≤ 1000) : CT la D cA B0 pa yJ0_getBytes_840e7 cJ0_getBytes_840e7 4 none (rmD 1 0 0) [.ref sa, .ref v, vI dp, .int 0] h (fun r h' => r = none ∧ ∃ gs' : List Int32, gs'.length = gs.length ∧ (BF gs → BF gs') ∧ h' = hup h v (102, gs'.map Value.int)) := by
  refine CT_of (by decide +kernel) (Nat.le_of_ble_eq_true rfl) ?_
  intro p e s m args below meth c X E hr hlk hnm
  have dk : ∀ {pc : Nat} {q : Instr × Nat}, lkd DJ0_getBytes_840e7 pc = some q → decode cJ0_getBytes_840e7 pc = .ok q := lkd_ok DJ0_getBytes_840e7_ok
  obtain ⟨va, hs⟩ := id S
  refine fst1_ok X (dk rfl) rfl ?_
  refine callT_ok (av := []) (r := []) X E hs (t_coder h S) lkJ0_coder_7d493 mlJ0_335 lmJ0_coder_7d493 lvJ0_coder_7d493 ⟨Nat.le_of_ble_eq_true rfl, Nat.le_of_ble_eq_true rfl⟩ ⟨Nat.le_of_ble_eq_true rfl, Nat.le_of_ble_eq_true rfl⟩ (Nat.le_of_ble_eq_true rfl) (dk rfl) ?_
  rintro _ _ ⟨rfl, rfl⟩
  refine fst1_ok X (dk rfl) rfl ?_
  refine br_ok X (dk rfl) rfl (show ((5 : Nat) : Int) + 23 = ((28 : Nat) : Int) from rfl) (fun q => absurd rfl q) (fun _ => ?_)
  refine fst1_ok X (dk rfl) rfl ?_
  refine strV_ok X E hs (dk rfl) ?_
  iterate 5 refine fst1_ok X (dk rfl) rfl ?_
  rw [sl0]
  refine fst1_ok X (dk rfl) rfl ?_
  refine strV_ok X E hs (dk rfl) ?_
  refine strL_ok X E hs (dk rfl) ?_
  refine acopyS X E acpJ0 hs hv h5 (by omega) (Nat.le_of_ble_eq_true rfl) (Nat.le_of_ble_eq_true rfl) (dk rfl) (fun gs2 hl2 hf2 => ?_)
  refine br_ok X (dk rfl) rfl (show ((25 : Nat) : Int) + 18 = ((43 : Nat) : Int) from rfl) (fun _ => ?_) (fun q => absurd trivial q)
  exact retv_ok X hr hlk (dk rfl) ⟨rfl, gs2, hl2, hf2, rfl⟩ (Nat.le_of_ble_eq_true rfl) (Nat.le_of_ble_eq_true rfl)
set_option maxHeartbeats 2000000 in
theorem t_put (h : AH) {b v n mm : Nat} (B : SBp h b v n mm) {sa nn : Nat} (S : StrA D h sa nn) {dp : Nat} (h5 : dp + nn ≤ mm) : CT la D cA B0 pa yJ5_putStringAt_47b60 cJ5_putStringAt_47b60 3 none (rmD 2 0 0) [.ref b, vI dp, .ref sa] h (fun r h' => r = none ∧ ∃ gs' : List Int32, gs'.length = mm ∧ BF gs' ∧ h' = hup h v (102, gs'.map Value.int)) := by
  refine CT_of (by decide +kernel) (Nat.le_of_ble_eq_true rfl) ?_
  intro p e s m args below meth c X E hr hlk hnm
  have dk : ∀ {pc : Nat} {q : Instr × Nat}, lkd DJ5_putStringAt_47b60 pc = some q → decode cJ5_putStringAt_47b60 pc = .ok q := lkd_ok DJ5_putStringAt_47b60_ok
  obtain ⟨t0, bs, hb, hv, hl, hf, hnm2, hm⟩ := id B
  obtain ⟨va, hs⟩ := id S
  iterate 2 refine fst1_ok X (dk rfl) rfl ?_
  refine callU_ok (ci := 1) (T := TJ4) (N := 4) (C := RJ4) (av := [.ref sa]) (r := []) X E (t_inf h B S) lkJ5_inflateIfNeededFor_a7421 rfl mlJ5_397 smJ5_inf slJ5_inf lmJ5_inflateIfNeededFor_a7421 ⟨Nat.le_of_ble_eq_true rfl, Nat.le_of_ble_eq_true rfl⟩ ⟨Nat.le_of_ble_eq_true rfl, Nat.le_of_ble_eq_true rfl⟩ rfl hb (Nat.le_of_ble_eq_true rfl) (dk rfl) ?_
  rintro _ _ ⟨rfl, rfl⟩
  iterate 2 refine fst1_ok X (dk rfl) rfl ?_
  refine getfI_ok X flJ5_15 (dk rfl) hb rfl ?_
  iterate 2 refine fst1_ok X (dk rfl) rfl ?_
  refine getfI_ok X flJ5_22 (dk rfl) hb rfl ?_
  refine callT_ok (av := [.ref v, vI dp, .int 0]) (r := []) X E hs (t_getB _ S hv (by omega) (by omega)) lkJ0_getBytes_840e7 mlJ5_399 lmJ0_getBytes_840e7 lvJ0_getBytes_840e7 ⟨Nat.le_of_ble_eq_true rfl, Nat.le_of_ble_eq_true rfl⟩ ⟨Nat.le_of_ble_eq_true rfl, Nat.le_of_ble_eq_true rfl⟩ (Nat.le_of_ble_eq_true rfl) (dk rfl) ?_
  rintro _ _ ⟨rfl, gs, g1, g2, rfl⟩
  exact retv_ok X hr hlk (dk rfl) ⟨rfl, gs, by omega, g2 hf, rfl⟩ (Nat.le_of_ble_eq_true rfl) (Nat.le_of_ble_eq_true rfl)
set_option maxHeartbeats 8000000 in
theorem t_apps (h : AH) {b v n mm : Nat} (B : SBp h b v n mm) {sa nn : Nat} (SS : StrS D h sa v nn) {N : Nat} (ht : n + nn ≤ N) (hN : N ≤ 400) : CT la D cA B0 pa yJ5_append_cf1ce cJ5_append_cf1ce 3 (some (.object "java/lang/AbstractStringBuilder")) (rmD 4 1 (2 * N)) [.ref b, .ref sa] h (fun r h' => r = some (.ref b) ∧ ∃ m', SBQ B0 h b v (n + nn) m' h') := by
  refine CT_of (by decide +kernel) (Nat.le_of_ble_eq_true rfl) ?_
  intro p e s m args below meth c X E hr hlk hnm
  have dk : ∀ {pc : Nat} {q : Instr × Nat}, lkd DJ5_append_cf1ce pc = some q → decode cJ5_append_cf1ce pc = .ok q := lkd_ok DJ5_append_cf1ce_ok
  obtain ⟨t0, bs, hb, hv, hl, hf, hnm2, hm⟩ := id B
  have S := SS.to
  obtain ⟨va, hs⟩ := id S
  refine fst1_ok X (dk rfl) rfl ?_
  refine br_ok X (dk rfl) rfl (show ((1 : Nat) : Int) + 8 = ((9 : Nat) : Int) from rfl) (fun _ => ?_) (fun q => absurd trivial q)
  refine fst1_ok X (dk rfl) rfl ?_
  refine callT_ok (av := []) (r := []) X E hs (t_slen h S) lkJ0_length_8abf5 mlJ5_32 lmJ0_length_8abf5 lvJ0_length_8abf5 ⟨Nat.le_of_ble_eq_true rfl, Nat.le_of_ble_eq_true rfl⟩ ⟨Nat.le_of_ble_eq_true rfl, Nat.zero_le _⟩ (Nat.le_of_ble_eq_true rfl) (dk rfl) ?_
  rintro _ _ ⟨rfl, rfl⟩
  iterate 3 refine fst1_ok X (dk rfl) rfl ?_
  refine getfI_ok X flJ5_79 (dk rfl) hb rfl ?_
  iterate 2 refine fst1_ok X (dk rfl) rfl ?_
  have e1 : Value.int (nI n + nI nn) = vI (n + nn) := congrArg Value.int (nI_add _ _)
  rw [e1]
  refine callU_ok (ci := 1) (T := TJ4) (N := 4) (C := RJ4) (av := [vI (n + nn)]) (r := []) X E (t_ens _ B (t := n + nn) ht hN) lkJ5_ensureCapacityInternal_d00df rfl mlJ5_100 smJ5_ens slJ5_ens lmJ5_ensureCapacityInternal_d00df ⟨Nat.le_of_ble_eq_true rfl, Nat.le_of_ble_eq_true rfl⟩ ⟨Nat.le_of_ble_eq_true rfl, by show 0 + 0 + 2 * N ≤ 2 * N; omega⟩ rfl hb (Nat.le_of_ble_eq_true rfl) (dk rfl) ?_
  rintro _ h1 ⟨rfl, m1, hm1, v1, B1, hv1, hk1⟩
  obtain ⟨t1, bs1, hb1, hw1, hl1, hf1, hn1, hmm1⟩ := id B1
  have hne := B1.ne
  have S1 : StrA D h1 sa nn := SS.kept B hk1
  obtain ⟨va1, hs1⟩ := id S1
  iterate 2 refine fst1_ok X (dk rfl) rfl ?_
  refine getfI_ok X flJ5_79 (dk rfl) hb1 rfl ?_
  refine fst1_ok X (dk rfl) rfl ?_
  refine callU_ok (ci := 1) (T := TJ4) (N := 4) (C := RJ4) (av := [vI n, .ref sa]) (r := []) X E (t_put h1 B1 S1 (dp := n) hm1) lkJ5_putStringAt_47b60 rfl mlJ5_208 smJ5_put slJ5_put lmJ5_putStringAt_47b60 ⟨Nat.le_of_ble_eq_true rfl, Nat.le_of_ble_eq_true rfl⟩ ⟨Nat.le_of_ble_eq_true rfl, by show 0 + 0 + 2 * N + 0 ≤ 2 * N; omega⟩ rfl hb1 (Nat.le_of_ble_eq_true rfl) (dk rfl) ?_
  rintro _ _ ⟨rfl, gs, g1, g2, rfl⟩
  have hb2 : hup h1 v1 (102, gs.map Value.int) b = some (1, [.ref v1, .int 0, t1, vI n]) := by rw [hup_ne _ _ hne]; exact hb1
  iterate 2 refine fst1_ok X (dk rfl) rfl ?_
  refine getfI_ok X flJ5_79 (dk rfl) hb2 rfl ?_
  iterate 2 refine fst1_ok X (dk rfl) rfl ?_
  rw [e1]
  refine putfI_ok X flJ5_79 ftJ4_3 rfl rfl (dk rfl) hb2 (Nat.le_of_ble_eq_true rfl) ?_
  refine fst1_ok X (dk rfl) rfl ?_
  refine reta_ok X hr hlk (Or.inl ⟨_, rfl⟩) (Or.inr ⟨_, rfl⟩) (dk rfl) ⟨rfl, m1, v1, ⟨t1, gs, hup_self _ _ _, by rw [hup_ne _ _ hne.symm]; exact hup_self _ _ _, g1, g2, hm1, hmm1⟩, hv1, fun a c g1 g2 g3 => ?_⟩ (Nat.le_of_ble_eq_true rfl) (by show 0 + 0 + 2 * N + 0 ≤ 2 * N; omega)
  have hav : a ≠ v1 := fun z => by
    rcases hv1 with w | w
    · exact g2 (z.trans w)
    · rw [z, w.1] at g3; cases g3
  rw [hup_ne _ _ g1, hup_ne _ _ hav]
  exact hk1 a c g1 g2 g3
set_option maxHeartbeats 2000000 in
theorem t_sapps (h : AH) {b v n mm : Nat} (B : SBp h b v n mm) {sa nn : Nat} (SS : StrS D h sa v nn) {N : Nat} (ht : n + nn ≤ N) (hN : N ≤ 400) : CT la D cA B0 pa yJ4_append_15ec4 cJ4_append_15ec4 2 (some (.object "java/lang/StringBuilder")) (rmD 5 1 (2 * N)) [.ref b, .ref sa] h (fun r h' => r = some (.ref b) ∧ ∃ m', SBQ B0 h b v (n + nn) m' h') := by
  refine CT_of (by decide +kernel) (Nat.le_of_ble_eq_true rfl) ?_
  intro p e s m args below meth c X E hr hlk hnm
  have dk : ∀ {pc : Nat} {q : Instr × Nat}, lkd DJ4_append_15ec4 pc = some q → decode cJ4_append_15ec4 pc = .ok q := lkd_ok DJ4_append_15ec4_ok
  obtain ⟨t0, bs, hb, hv, hl, hf, hnm2, hm⟩ := id B
  iterate 2 refine fst1_ok X (dk rfl) rfl ?_
  refine callSU_ok (ci := 1) (T := TJ4) (N := 4) (C := RJ4) (av := [.ref sa]) (r := []) X E (t_apps h B SS ht hN) lkJ5_append_cf1ce mlJ4_29 smJ5_apps spJ4 lmJ5_append_cf1ce (by decide) ⟨Nat.le_of_ble_eq_true rfl, Nat.le_of_ble_eq_true rfl⟩ ⟨Nat.le_of_ble_eq_true rfl, by show 0 + 2 * N ≤ 2 * N; omega⟩ rfl hb (Nat.le_of_ble_eq_true rfl) (dk rfl) ?_
  rintro _ h1 ⟨rfl, P1⟩
  iterate 2 refine fst1_ok X (dk rfl) rfl ?_
  exact reta_ok X hr hlk (Or.inl ⟨_, rfl⟩) (Or.inr ⟨_, rfl⟩) (dk rfl) ⟨rfl, P1⟩ (Nat.le_of_ble_eq_true rfl) (by show 0 + 2 * N ≤ 2 * N; omega)
theorem t_val (h : AH) {b v n mm : Nat} (B : SBp h b v n mm) : CT la D cA B0 pa yJ5_getValue_6d5f1 cJ5_getValue_6d5f1 1 (some (.array .byte)) (rmD 0 0 0) [.ref b] h (fun r h' => r = some (.ref v) ∧ h' = h) := by
  refine CT_of (by decide +kernel) (Nat.le_of_ble_eq_true rfl) ?_
  intro p e s m args below meth c X E hr hlk hnm
  have dk : ∀ {pc : Nat} {q : Instr × Nat}, lkd DJ5_getValue_6d5f1 pc = some q → decode cJ5_getValue_6d5f1 pc = .ok q := lkd_ok DJ5_getValue_6d5f1_ok
  obtain ⟨t0, bs, hb, hv, hl, hf, hnm2, hm⟩ := id B
  refine fst1_ok X (dk rfl) rfl ?_
  refine getfI_ok X flJ5_15 (dk rfl) hb rfl ?_
  exact reta_ok X hr hlk (Or.inr ⟨_, rfl⟩) (Or.inr ⟨_, rfl⟩) (dk rfl) ⟨rfl, rfl⟩ (Nat.le_of_ble_eq_true rfl) (Nat.le_of_ble_eq_true rfl)
theorem t_len (h : AH) {b v n mm : Nat} (B : SBp h b v n mm) : CT la D cA B0 pa yJ5_length_8abf5 cJ5_length_8abf5 1 (some .int) (rmD 0 0 0) [.ref b] h (fun r h' => r = some (vI n) ∧ h' = h) := by
  refine CT_of (by decide +kernel) (Nat.le_of_ble_eq_true rfl) ?_
  intro p e s m args below meth c X E hr hlk hnm
  have dk : ∀ {pc : Nat} {q : Instr × Nat}, lkd DJ5_length_8abf5 pc = some q → decode cJ5_length_8abf5 pc = .ok q := lkd_ok DJ5_length_8abf5_ok
  obtain ⟨t0, bs, hb, hv, hl, hf, hnm2, hm⟩ := id B
  refine fst1_ok X (dk rfl) rfl ?_
  refine getfI_ok X flJ5_79 (dk rfl) hb rfl ?_
  exact reti_ok X hr hlk rfl (dk rfl) ⟨rfl, rfl⟩ (Nat.le_of_ble_eq_true rfl) (Nat.le_of_ble_eq_true rfl)
theorem t_sblen (h : AH) {b v n mm : Nat} (B : SBp h b v n mm) : CT la D cA B0 pa yJ4_length_8abf5 cJ4_length_8abf5 1 (some .int) (rmD 1 0 0) [.ref b] h (fun r h' => r = some (vI n) ∧ h' = h) := by
  refine CT_of (by decide +kernel) (Nat.le_of_ble_eq_true rfl) ?_
  intro p e s m args below meth c X E hr hlk hnm
  have dk : ∀ {pc : Nat} {q : Instr × Nat}, lkd DJ4_length_8abf5 pc = some q → decode cJ4_length_8abf5 pc = .ok q := lkd_ok DJ4_length_8abf5_ok
  obtain ⟨t0, bs, hb, hv, hl, hf, hnm2, hm⟩ := id B
  refine fst1_ok X (dk rfl) rfl ?_
  refine callSU_ok (ci := 1) (T := TJ4) (N := 4) (C := RJ4) (av := []) (r := []) X E (t_len h B) lkJ5_length_8abf5 mlJ4_343 smJ5_len spJ4 lmJ5_length_8abf5 (by decide) ⟨Nat.le_of_ble_eq_true rfl, Nat.le_of_ble_eq_true rfl⟩ ⟨Nat.le_of_ble_eq_true rfl, Nat.le_of_ble_eq_true rfl⟩ rfl hb (Nat.le_of_ble_eq_true rfl) (dk rfl) ?_
  rintro _ _ ⟨rfl, rfl⟩
  exact reti_ok X hr hlk rfl (dk rfl) ⟨rfl, rfl⟩ (Nat.le_of_ble_eq_true rfl) (Nat.le_of_ble_eq_true rfl)
theorem t_chk (h : AH) {nn : Nat} (hn : nn < 2 ^ 20) : CT la D cA B0 pa yJ7_checkLength_df160 cJ7_checkLength_df160 2 none (rmD 0 0 0) [.int 0, vI nn] h (fun r h' => r = none ∧ h' = h) := by
  refine CT_of (by decide +kernel) (Nat.le_of_ble_eq_true rfl) ?_
  intro p e s m args below meth c X E hr hlk hnm
  have dk : ∀ {pc : Nat} {q : Instr × Nat}, lkd DJ7_checkLength_df160 pc = some q → decode cJ7_checkLength_df160 pc = .ok q := lkd_ok DJ7_checkLength_df160_ok
  iterate 2 refine fst1_ok X (dk rfl) rfl ?_
  refine br_ok X (dk rfl) rfl (show ((2 : Nat) : Int) + 35 = ((37 : Nat) : Int) from rfl) (fun _ => ?_) (fun q => absurd (Int32.not_lt.mp (nI_pos (by omega))) q)
  exact retv_ok X hr hlk (dk rfl) ⟨rfl, rfl⟩ (Nat.le_of_ble_eq_true rfl) (Nat.le_of_ble_eq_true rfl)
set_option maxHeartbeats 4000000 in
theorem t_cprB (h : AH) {v nn : Nat} {bs : List Int32} (hv : h v = some (102, bs.map Value.int)) (hf : BF bs) (hn : nn ≤ bs.length) (hl : bs.length ≤ 1000) : CT la D cA B0 pa yJ7_copyOfRangeByte_39247 cJ7_copyOfRangeByte_39247 5 (some (.array .byte)) (rmD 1 1 nn) [.ref v, .int 0, vI nn] h (NewB B0 h nn) := by
  refine CT_of (by decide +kernel) (Nat.le_of_ble_eq_true rfl) ?_
  intro p e s m args below meth c X E hr hlk hnm
  have dk : ∀ {pc : Nat} {q : Instr × Nat}, lkd DJ7_copyOfRangeByte_39247 pc = some q → decode cJ7_copyOfRangeByte_39247 pc = .ok q := lkd_ok DJ7_copyOfRangeByte_39247_ok
  iterate 2 refine fst1_ok X (dk rfl) rfl ?_
  refine callS_ok (av := [.int 0, vI nn]) (r := []) X E (t_chk _ (by omega)) lkJ7_checkLength_df160 mlJ7_343 lsJ7_checkLength_df160 ⟨Nat.le_of_ble_eq_true rfl, Nat.le_of_ble_eq_true rfl⟩ ⟨Nat.le_of_ble_eq_true rfl, Nat.zero_le _⟩ (Nat.le_of_ble_eq_true rfl) (dk rfl) ?_
  rintro _ _ ⟨rfl, rfl⟩
  iterate 3 refine fst1_ok X (dk rfl) rfl ?_
  have e1 : Value.int (nI nn - 0) = vI nn := congrArg Value.int (Int32.sub_zero _)
  rw [e1]
  iterate 2 refine fst1_ok X (dk rfl) rfl ?_
  refine newab_ok X (dk rfl) (by omega) (Nat.le_of_ble_eq_true rfl) (by show 0 + 0 + nn ≤ nn; omega) (fun q hq hBq => ?_)
  have hvq : v ≠ q := fun z => by rw [z, hq] at hv; cases hv
  iterate 6 refine fst1_ok X (dk rfl) rfl ?_
  refine alen_ok (kd := 102) (vs := bs.map Value.int) X (by decide) (dk rfl) (by rw [hup_ne _ _ hvq]; exact hv) ?_
  rw [List.length_map]
  iterate 2 refine fst1_ok X (dk rfl) rfl ?_
  rw [Int32.sub_zero]
  refine fst1_ok X (dk rfl) rfl ?_
  refine mmin_ok X (x := bs.length) (y := nn) (by omega) (by omega) mlJ7_304 (dk rfl) (Nat.le_of_ble_eq_true rfl) (Nat.le_of_ble_eq_true rfl) (Nat.le_of_ble_eq_true rfl) (by show 0 + 0 + nn ≤ nn; omega) ?_
  refine acopyH (sp := 0) (dp := 0) (z := min bs.length nn) X acpJ7 (by rw [hup_ne _ _ hvq]; exact hv) (hup_self _ _ _) hf (by omega) (by rw [List.length_replicate]; omega) (by omega) (by rw [List.length_replicate]; omega) (Nat.le_of_ble_eq_true rfl) (Nat.le_of_ble_eq_true rfl) (dk rfl) (fun gs hgl hgf => ?_)
  refine fst1_ok X (dk rfl) rfl ?_
  exact reta_ok X hr hlk (Or.inr ⟨_, rfl⟩) (Or.inr ⟨_, rfl⟩) (dk rfl) ⟨q, gs, rfl, hq, hBq, hup_self _ _ _, fun a ha => by rw [hup_ne _ _ ha, hup_ne _ _ ha], by rw [hgl, List.length_replicate], hgf (BF_zero _)⟩ (Nat.le_of_ble_eq_true rfl) (by show 0 + 0 + nn ≤ nn; omega)
set_option maxHeartbeats 4000000 in
theorem t_cpr (h : AH) {v nn : Nat} {bs : List Int32} (hv : h v = some (102, bs.map Value.int)) (hf : BF bs) (hn : nn ≤ bs.length) (hl : bs.length ≤ 1000) : CT la D cA B0 pa yJ7_copyOfRange_39247 cJ7_copyOfRange_39247 3 (some (.array .byte)) (rmD 2 1 nn) [.ref v, .int 0, vI nn] h (NewB B0 h nn) := by
  refine CT_of (by decide +kernel) (Nat.le_of_ble_eq_true rfl) ?_
  intro p e s m args below meth c X E hr hlk hnm
  have dk : ∀ {pc : Nat} {q : Instr × Nat}, lkd DJ7_copyOfRange_39247 pc = some q → decode cJ7_copyOfRange_39247 pc = .ok q := lkd_ok DJ7_copyOfRange_39247_ok
  refine fst1_ok X (dk rfl) rfl ?_
  refine br_ok X (dk rfl) rfl (show ((1 : Nat) : Int) + 9 = ((10 : Nat) : Int) from rfl) (fun q => absurd rfl q) (fun _ => ?_)
  iterate 2 refine fst1_ok X (dk rfl) rfl ?_
  refine alen_ok (kd := 102) (vs := bs.map Value.int) X (by decide) (dk rfl) hv ?_
  rw [List.length_map]
  by_cases hc : nn = bs.length
  · refine br_ok X (dk rfl) rfl (show ((7 : Nat) : Int) + 10 = ((17 : Nat) : Int) from rfl) (fun _ => ?_) (fun q => absurd (by rw [hc]) q)
    refine fst1_ok X (dk rfl) rfl ?_
    refine clone_ok X E hv hf (Nat.le_of_ble_eq_true rfl) (Nat.le_of_ble_eq_true rfl) (Nat.le_of_ble_eq_true rfl) (by show 0 + bs.length ≤ nn; omega) (dk rfl) (fun q hq hBq => ?_)
    refine castB_ok X (hup_self _ _ _) (dk rfl) ?_
    exact reta_ok X hr hlk (Or.inr ⟨_, rfl⟩) (Or.inr ⟨_, rfl⟩) (dk rfl) ⟨q, bs, rfl, hq, hBq, hup_self _ _ _, fun a ha => hup_ne _ _ ha, hc.symm, hf⟩ (Nat.le_of_ble_eq_true rfl) (by show 0 + bs.length ≤ nn; omega)
  · refine br_ok X (dk rfl) rfl (show ((7 : Nat) : Int) + 10 = ((17 : Nat) : Int) from rfl) (fun q => absurd (nI_inj (by omega) (by omega) q) hc) (fun _ => ?_)
    iterate 3 refine fst1_ok X (dk rfl) rfl ?_
    refine callS_ok (av := [.ref v, .int 0, vI nn]) (r := []) X E (t_cprB h hv hf hn hl) lkJ7_copyOfRangeByte_39247 mlJ7_339 lsJ7_copyOfRangeByte_39247 ⟨Nat.le_of_ble_eq_true rfl, Nat.le_of_ble_eq_true rfl⟩ ⟨Nat.le_of_ble_eq_true rfl, by show 0 + nn ≤ nn; omega⟩ (Nat.le_of_ble_eq_true rfl) (dk rfl) ?_
    rintro _ h2 P2
    obtain ⟨q, bs2, rfl, P3⟩ := P2
    exact reta_ok X hr hlk (Or.inr ⟨_, rfl⟩) (Or.inr ⟨_, rfl⟩) (dk rfl) ⟨q, bs2, rfl, P3⟩ (Nat.le_of_ble_eq_true rfl) (by show 0 + nn ≤ nn; omega)
set_option maxHeartbeats 8000000 in
theorem t_ini (h : AH) {b v n mm : Nat} (B : SBp h b v n mm) {o : Nat} {x0 y0 : Value} (ho : h o = some (0, [.null, .int 0, x0, y0])) : CT la D cA B0 pa yJ0_init_db425 cJ0_init_db425 5 none (rmD 3 1 n) [.ref o, .ref b, .null] h (fun r h' => r = none ∧ ∃ va bs, h' o = some (0, [.ref va, .int 0, x0, y0]) ∧ h' va = some (102, bs.map Value.int) ∧ bs.length = n ∧ BF bs ∧ h va = none ∧ ∀ (a : Nat) (c : AC), a ≠ o → h a = some c → h' a = some c) := by
  refine CT_of (by decide +kernel) (Nat.le_of_ble_eq_true rfl) ?_
  intro p e s m args below meth c X E hr hlk hnm
  have dk : ∀ {pc : Nat} {q : Instr × Nat}, lkd DJ0_init_db425 pc = some q → decode cJ0_init_db425 pc = .ok q := lkd_ok DJ0_init_db425_ok
  obtain ⟨t0, bs, hb, hv, hl, hf, hnm2, hm⟩ := id B
  refine fst1_ok X (dk rfl) rfl ?_
  refine obj_ok X ml0_objB (dk rfl) (Nat.le_of_ble_eq_true rfl) (Nat.le_of_ble_eq_true rfl) (Nat.le_of_ble_eq_true rfl) ?_
  refine fst1_ok X (dk rfl) rfl ?_
  refine callU_ok (ci := 1) (T := TJ4) (N := 4) (C := RJ4) (av := []) (r := []) X E (t_val h B) lkJ5_getValue_6d5f1 rfl mlJ0_552 smJ5_val slJ5_val lmJ5_getValue_6d5f1 ⟨Nat.le_of_ble_eq_true rfl, Nat.le_of_ble_eq_true rfl⟩ ⟨Nat.zero_le _, Nat.zero_le _⟩ rfl hb (Nat.le_of_ble_eq_true rfl) (dk rfl) ?_
  rintro _ _ ⟨rfl, rfl⟩
  iterate 2 refine fst1_ok X (dk rfl) rfl ?_
  refine callO_ok (ci := 1) (T := TJ4) (N := 4) (C := RJ4) (av := []) (r := []) X E (t_sblen _ B) lkJ4_length_8abf5 lkJ5_length_8abf5 mlJ0_549 smJ5_len slJ5_len lmJ5_length_8abf5 lmJ4_length_8abf5 ⟨Nat.le_of_ble_eq_true rfl, Nat.le_of_ble_eq_true rfl⟩ ⟨Nat.zero_le _, Nat.zero_le _⟩ rfl hb (Nat.le_of_ble_eq_true rfl) (dk rfl) ?_
  rintro _ _ ⟨rfl, rfl⟩
  iterate 2 refine fst1_ok X (dk rfl) rfl ?_
  refine callU_ok (ci := 1) (T := TJ4) (N := 4) (C := RJ4) (av := []) (r := []) X E (t_lat _ B) lkJ5_isLatin1_aae02 rfl mlJ0_1047 smJ5_lat slJ5_lat lmJ5_isLatin1_aae02 ⟨Nat.le_of_ble_eq_true rfl, Nat.le_of_ble_eq_true rfl⟩ ⟨Nat.zero_le _, Nat.zero_le _⟩ rfl hb (Nat.le_of_ble_eq_true rfl) (dk rfl) ?_
  rintro _ _ ⟨rfl, rfl⟩
  refine br_ok X (dk rfl) rfl (show ((19 : Nat) : Int) + 22 = ((41 : Nat) : Int) from rfl) (fun q => absurd q (by decide)) (fun _ => ?_)
  iterate 2 refine fst1_ok X (dk rfl) rfl ?_
  refine putf_ok X flJ0_15' ftJ0_1 (Or.inr ⟨by rw [hnm]; rfl, RJ0, TJ0, 4, rfl, rfl⟩) rfl rfl (dk rfl) ho (Nat.le_of_ble_eq_true rfl) ?_
  generalize hh1 : hup _ o _ = h1
  have hob : b ≠ o := fun z => by rw [z, ho] at hb; cases hb
  have hov : v ≠ o := fun z => by rw [z, ho] at hv; cases hv
  have ho1 : h1 o = some (0, [.null, .int 0, x0, y0]) := by rw [← hh1]; exact hup_self _ _ _
  have hv1 : h1 v = some (102, bs.map Value.int) := by rw [← hh1, hup_ne _ _ hov]; exact hv
  iterate 4 refine fst1_ok X (dk rfl) rfl ?_
  refine callS_ok (av := [.ref v, .int 0, vI n]) (r := [.ref o]) X E (t_cpr h1 hv1 hf (by omega) (by omega)) lkJ7_copyOfRange_39247 mlJ0_54 lsJ7_copyOfRange_39247 ⟨Nat.le_of_ble_eq_true rfl, Nat.le_of_ble_eq_true rfl⟩ ⟨Nat.le_of_ble_eq_true rfl, by show 0 + 0 + 0 + 0 + n ≤ n; omega⟩ (Nat.le_of_ble_eq_true rfl) (dk rfl) ?_
  rintro _ h2 ⟨q, bs2, rfl, hq, hBq, hq2, hk2, hl2, hf2⟩
  have hoq : o ≠ q := fun z => by rw [z, hq] at ho1; cases ho1
  have ho2 : h2 o = some (0, [.null, .int 0, x0, y0]) := (hk2 o hoq).trans ho1
  refine putf_ok X flJ0_9' ftJ0_0 (Or.inr ⟨by rw [hnm]; rfl, RJ0, TJ0, 4, rfl, rfl⟩) rfl rfl (dk rfl) ho2 (Nat.le_of_ble_eq_true rfl) ?_
  refine br_ok X (dk rfl) rfl (show ((38 : Nat) : Int) + 59 = ((97 : Nat) : Int) from rfl) (fun _ => ?_) (fun q => absurd trivial q)
  refine retv_ok X hr hlk (dk rfl) ⟨rfl, q, bs2, hup_self _ _ _, by rw [hup_ne _ _ hoq.symm]; exact hq2, hl2, hf2, ?_, fun a c g1 g2 => ?_⟩ (Nat.le_of_ble_eq_true rfl) (by show 0 + 0 + 0 + 0 + n ≤ n; omega)
  · rw [← hh1, hup_ne _ _ hoq.symm] at hq
    exact hq
  · have g3 : h1 a = some c := by rw [← hh1, hup_ne _ _ g1]; exact g2
    rw [hup_ne _ _ g1, hk2 a (fun z => by rw [z, hq] at g3; cases g3)]
    exact g3
set_option maxHeartbeats 2000000 in
theorem t_ini2 (h : AH) {b v n mm : Nat} (B : SBp h b v n mm) {o : Nat} {x0 y0 : Value} (ho : h o = some (0, [.null, .int 0, x0, y0])) : CT la D cA B0 pa yJ0_init_81219 cJ0_init_81219 2 none (rmD 4 1 n) [.ref o, .ref b] h (fun r h' => r = none ∧ ∃ va bs, h' o = some (0, [.ref va, .int 0, x0, y0]) ∧ h' va = some (102, bs.map Value.int) ∧ bs.length = n ∧ BF bs ∧ h va = none ∧ ∀ (a : Nat) (c : AC), a ≠ o → h a = some c → h' a = some c) := by
  refine CT_of (by decide +kernel) (Nat.le_of_ble_eq_true rfl) ?_
  intro p e s m args below meth c X E hr hlk hnm
  have dk : ∀ {pc : Nat} {q : Instr × Nat}, lkd DJ0_init_81219 pc = some q → decode cJ0_init_81219 pc = .ok q := lkd_ok DJ0_init_81219_ok
  iterate 3 refine fst1_ok X (dk rfl) rfl ?_
  refine callI_ok (av := [.ref b, .null]) (r := []) X E (t_ini h B ho) lkJ0_init_db425 mlJ0_489 lmJ0_init_db425 rfl ⟨Nat.le_of_ble_eq_true rfl, Nat.le_of_ble_eq_true rfl⟩ ⟨Nat.le_of_ble_eq_true rfl, by show 0 + n ≤ n; omega⟩ (Nat.le_of_ble_eq_true rfl) (dk rfl) ?_
  rintro _ h1 ⟨rfl, P1⟩
  exact retv_ok X hr hlk (dk rfl) ⟨rfl, P1⟩ (Nat.le_of_ble_eq_true rfl) (by show 0 + n ≤ n; omega)
theorem ncJ4_18 : NC RJ4 18 0 [.null, .int 0, .int 0, .int 0] := by
  refine ⟨RJ0, TJ0, 4, tyJ0, rfl, cwJ0, tyJ0_ok, rfl, fun j hj => ?_, WT_of (by decide +kernel) rfl, WT_of (by decide +kernel) rfl, liJ0⟩
  match j, hj with
  | 0, _ => rfl
  | 1, _ => rfl
  | 2, _ => rfl
  | 3, _ => rfl
set_option maxHeartbeats 4000000 in
theorem t_toS (h : AH) {b v n mm : Nat} (B : SBp h b v n mm) : CT la D cA B0 pa yJ4_toString_0e30d cJ4_toString_0e30d 1 (some (.object "java/lang/String")) (rmD 5 2 (4 + n)) [.ref b] h (StrN h n) := by
  refine CT_of (by decide +kernel) (Nat.le_of_ble_eq_true rfl) ?_
  intro p e s m args below meth c X E hr hlk hnm
  have dk : ∀ {pc : Nat} {q : Instr × Nat}, lkd DJ4_toString_0e30d pc = some q → decode cJ4_toString_0e30d pc = .ok q := lkd_ok DJ4_toString_0e30d_ok
  obtain ⟨t0, bs, hb, hv, hl, hf, hnm2, hm⟩ := id B
  refine new_ok X ncJ4_18 (dk rfl) (Nat.le_of_ble_eq_true rfl) (by show 0 + 4 ≤ 4 + n; omega) (fun o ho0 hBo => ?_)
  have hob : b ≠ o := fun z => by rw [z, ho0] at hb; cases hb
  have hov : v ≠ o := fun z => by rw [z, ho0] at hv; cases hv
  have B1 : SBp (hup h o (0, [.null, .int 0, .int 0, .int 0])) b v n mm := ⟨t0, bs, by rw [hup_ne _ _ hob]; exact hb, by rw [hup_ne _ _ hov]; exact hv, hl, hf, hnm2, hm⟩
  iterate 2 refine fst1_ok X (dk rfl) rfl ?_
  refine callI_ok (av := [.ref b]) (r := [.ref o]) X E (t_ini2 _ B1 (hup_self _ _ _)) lkJ0_init_81219 mlJ4_137 lmJ0_init_81219 rfl ⟨Nat.le_of_ble_eq_true rfl, Nat.le_of_ble_eq_true rfl⟩ ⟨Nat.le_of_ble_eq_true rfl, by show 0 + 4 + n ≤ 4 + n; omega⟩ (Nat.le_of_ble_eq_true rfl) (dk rfl) ?_
  rintro _ h1 ⟨rfl, va, bs2, g1, g2, g3, g4, g5, g6⟩
  refine reta_ok X hr hlk (Or.inl ⟨_, rfl⟩) (Or.inr ⟨_, rfl⟩) (dk rfl) ⟨o, va, rfl, ⟨_, _, bs2, g1, g2, g3, g4⟩, ho0, ?_, fun a c g7 => ?_⟩ (Nat.le_of_ble_eq_true rfl) (by show 0 + 4 + n ≤ 4 + n; omega)
  · rw [hup_ne _ _ (fun z => by rw [z, hup_self] at g5; cases g5)] at g5
    exact g5
  · have hne : a ≠ o := fun z => by rw [z, ho0] at g7; cases g7
    exact g6 a c hne (by rw [hup_ne _ _ hne]; exact g7)
set_option maxHeartbeats 4000000 in
theorem t_asb (h : AH) {o : Nat} {t0 : Value} (ho : h o = some (1, [.null, .int 0, t0, .int 0])) : CT la D cA B0 pa yJ5_init_d00df cJ5_init_d00df 2 none (rmD 1 1 16) [.ref o, vI 16] h (fun r h' => r = none ∧ ∃ v, SBp h' o v 0 16 ∧ h v = none ∧ ∀ (a : Nat) (c : AC), a ≠ o → h a = some c → h' a = some c) := by
  refine CT_of (by decide +kernel) (Nat.le_of_ble_eq_true rfl) ?_
  intro p e s m args below meth c X E hr hlk hnm
  have dk : ∀ {pc : Nat} {q : Instr × Nat}, lkd DJ5_init_d00df pc = some q → decode cJ5_init_d00df pc = .ok q := lkd_ok DJ5_init_d00df_ok
  refine fst1_ok X (dk rfl) rfl ?_
  refine obj_ok X ml5_objB (dk rfl) (Nat.le_of_ble_eq_true rfl) (Nat.le_of_ble_eq_true rfl) (Nat.le_of_ble_eq_true rfl) ?_
  refine getsC_ok X E glJ5_18 (dk rfl) ?_
  refine br_ok X (dk rfl) rfl (show ((7 : Nat) : Int) + 18 = ((25 : Nat) : Int) from rfl) (fun q => absurd q (by decide)) (fun _ => ?_)
  iterate 2 refine fst1_ok X (dk rfl) rfl ?_
  refine newab_ok (j := 16) X (dk rfl) (by omega) (Nat.le_of_ble_eq_true rfl) (Nat.le_of_ble_eq_true rfl) (fun q hq hBq => ?_)
  have hoq : o ≠ q := fun z => by rw [z, hq] at ho; cases ho
  refine putfI_ok X flJ5_15 ftJ4_0 rfl rfl (dk rfl) (by rw [hup_ne _ _ hoq]; exact ho) (Nat.le_of_ble_eq_true rfl) ?_
  iterate 2 refine fst1_ok X (dk rfl) rfl ?_
  refine putfI_ok X flJ5_22 ftJ4_1 rfl rfl (dk rfl) (hup_self _ _ _) (Nat.le_of_ble_eq_true rfl) ?_
  refine br_ok X (dk rfl) rfl (show ((22 : Nat) : Int) + 16 = ((38 : Nat) : Int) from rfl) (fun _ => ?_) (fun q => absurd trivial q)
  refine retv_ok X hr hlk (dk rfl) ⟨rfl, q, ⟨t0, List.replicate 16 0, hup_self _ _ _, by rw [hup_ne _ _ hoq.symm, hup_ne _ _ hoq.symm, hup_self], rfl, BF_zero _, Nat.zero_le _, by omega⟩, hq, fun a c g1 g2 => ?_⟩ (Nat.le_of_ble_eq_true rfl) (Nat.le_of_ble_eq_true rfl)
  rw [hup_ne _ _ g1, hup_ne _ _ g1, hup_ne _ _ (fun z => by rw [z, hq] at g2; cases g2)]
  exact g2
theorem t_sb (h : AH) {o : Nat} {t0 : Value} (ho : h o = some (1, [.null, .int 0, t0, .int 0])) : CT la D cA B0 pa yJ4_init_da8c8 cJ4_init_da8c8 1 none (rmD 2 1 16) [.ref o] h (fun r h' => r = none ∧ ∃ v, SBp h' o v 0 16 ∧ h v = none ∧ ∀ (a : Nat) (c : AC), a ≠ o → h a = some c → h' a = some c) := by
  refine CT_of (by decide +kernel) (Nat.le_of_ble_eq_true rfl) ?_
  intro p e s m args below meth c X E hr hlk hnm
  have dk : ∀ {pc : Nat} {q : Instr × Nat}, lkd DJ4_init_da8c8 pc = some q → decode cJ4_init_da8c8 pc = .ok q := lkd_ok DJ4_init_da8c8_ok
  iterate 2 refine fst1_ok X (dk rfl) rfl ?_
  rw [show (Int8.ofInt 16).toInt32 = nI 16 by decide +kernel]
  refine callI_ok (av := [vI 16]) (r := []) X E (t_asb h ho) lkJ5_init_d00df mlJ4_1 lmJ5_init_d00df rfl ⟨Nat.le_of_ble_eq_true rfl, Nat.le_of_ble_eq_true rfl⟩ ⟨Nat.le_of_ble_eq_true rfl, Nat.le_of_ble_eq_true rfl⟩ (Nat.le_of_ble_eq_true rfl) (dk rfl) ?_
  rintro _ h1 ⟨rfl, P1⟩
  exact retv_ok X hr hlk (dk rfl) ⟨rfl, P1⟩ (Nat.le_of_ble_eq_true rfl) (Nat.le_of_ble_eq_true rfl)
theorem t_slat (h : AH) {sa nn : Nat} (S : StrA D h sa nn) : CT la D cA B0 pa yJ0_isLatin1_aae02 cJ0_isLatin1_aae02 1 (some .boolean) (rmD 0 0 0) [.ref sa] h (fun r h' => r = some (.int 1) ∧ h' = h) := by
  refine CT_of (by decide +kernel) (Nat.le_of_ble_eq_true rfl) ?_
  intro p e s m args below meth c X E hr hlk hnm
  have dk : ∀ {pc : Nat} {q : Instr × Nat}, lkd DJ0_isLatin1_aae02 pc = some q → decode cJ0_isLatin1_aae02 pc = .ok q := lkd_ok DJ0_isLatin1_aae02_ok
  obtain ⟨va, hs⟩ := S
  refine getsC_ok X E glJ0_38 (dk rfl) ?_
  refine br_ok X (dk rfl) rfl (show ((3 : Nat) : Int) + 14 = ((17 : Nat) : Int) from rfl) (fun q => absurd q (by decide)) (fun _ => ?_)
  refine fst1_ok X (dk rfl) rfl ?_
  refine strK_ok X E hs (dk rfl) ?_
  refine br_ok X (dk rfl) rfl (show ((10 : Nat) : Int) + 7 = ((17 : Nat) : Int) from rfl) (fun q => absurd rfl q) (fun _ => ?_)
  refine fst1_ok X (dk rfl) rfl ?_
  refine br_ok X (dk rfl) rfl (show ((14 : Nat) : Int) + 4 = ((18 : Nat) : Int) from rfl) (fun _ => ?_) (fun q => absurd trivial q)
  exact reti_ok X hr hlk rfl (dk rfl) ⟨rfl, rfl⟩ (Nat.le_of_ble_eq_true rfl) (Nat.le_of_ble_eq_true rfl)
theorem t_pciN (h : AH) {j nn : Nat} (hj : j < nn) (hn : nn < 2 ^ 20) : CT la D cA B0 pa yJ3_checkIndex_8e157 cJ3_checkIndex_8e157 3 (some .int) (rmD 0 0 0) [vI j, vI nn, .null] h (fun r h' => r = some (vI j) ∧ h' = h) := by
  refine CT_of (by decide +kernel) (Nat.le_of_ble_eq_true rfl) ?_
  intro p e s m args below meth c X E hr hlk hnm
  have dk : ∀ {pc : Nat} {q : Instr × Nat}, lkd DJ3_checkIndex_8e157 pc = some q → decode cJ3_checkIndex_8e157 pc = .ok q := lkd_ok DJ3_checkIndex_8e157_ok
  refine fst1_ok X (dk rfl) rfl ?_
  refine br_ok X (dk rfl) rfl (show ((1 : Nat) : Int) + 8 = ((9 : Nat) : Int) from rfl) (fun q => absurd q (nI_pos (by omega))) (fun _ => ?_)
  iterate 2 refine fst1_ok X (dk rfl) rfl ?_
  refine br_ok X (dk rfl) rfl (show ((6 : Nat) : Int) + 10 = ((16 : Nat) : Int) from rfl) (fun _ => ?_) (fun q => absurd ((nI_ltI (by omega) (by omega)).mpr hj) q)
  refine fst1_ok X (dk rfl) rfl ?_
  exact reti_ok X hr hlk rfl (dk rfl) ⟨rfl, rfl⟩ (Nat.le_of_ble_eq_true rfl) (Nat.le_of_ble_eq_true rfl)
theorem t_pciR (h : AH) {j nn : Nat} (hj : j < nn) (hn : nn < 2 ^ 20) (t : Nat) : CT la D cA B0 pa yJ3_checkIndex_8e157 cJ3_checkIndex_8e157 3 (some .int) (rmD 0 0 0) [vI j, vI nn, .ref t] h (fun r h' => r = some (vI j) ∧ h' = h) := by
  refine CT_of (by decide +kernel) (Nat.le_of_ble_eq_true rfl) ?_
  intro p e s m args below meth c X E hr hlk hnm
  have dk : ∀ {pc : Nat} {q : Instr × Nat}, lkd DJ3_checkIndex_8e157 pc = some q → decode cJ3_checkIndex_8e157 pc = .ok q := lkd_ok DJ3_checkIndex_8e157_ok
  refine fst1_ok X (dk rfl) rfl ?_
  refine br_ok X (dk rfl) rfl (show ((1 : Nat) : Int) + 8 = ((9 : Nat) : Int) from rfl) (fun q => absurd q (nI_pos (by omega))) (fun _ => ?_)
  iterate 2 refine fst1_ok X (dk rfl) rfl ?_
  refine br_ok X (dk rfl) rfl (show ((6 : Nat) : Int) + 10 = ((16 : Nat) : Int) from rfl) (fun _ => ?_) (fun q => absurd ((nI_ltI (by omega) (by omega)).mpr hj) q)
  refine fst1_ok X (dk rfl) rfl ?_
  exact reti_ok X hr hlk rfl (dk rfl) ⟨rfl, rfl⟩ (Nat.le_of_ble_eq_true rfl) (Nat.le_of_ble_eq_true rfl)
theorem t_ci (h : AH) {j nn : Nat} (hj : j < nn) (hn : nn < 2 ^ 20) : CT la D cA B0 pa yJ0_checkIndex_df160 cJ0_checkIndex_df160 2 none (rmD 1 0 0) [vI j, vI nn] h (fun r h' => r = none ∧ h' = h) := by
  refine CT_of (by decide +kernel) (Nat.le_of_ble_eq_true rfl) ?_
  intro p e s m args below meth c X E hr hlk hnm
  have dk : ∀ {pc : Nat} {q : Instr × Nat}, lkd DJ0_checkIndex_df160 pc = some q → decode cJ0_checkIndex_df160 pc = .ok q := lkd_ok DJ0_checkIndex_df160_ok
  iterate 2 refine fst1_ok X (dk rfl) rfl ?_
  refine getsF_ok X E glJ0_1053 (dk rfl) (fun f hf => ?_)
  rcases hf with rfl | ⟨t, rfl⟩
  · refine callS_ok (av := [vI j, vI nn, .null]) (r := []) X E (t_pciN h hj hn) lkJ3_checkIndex_8e157 mlJ0_1059 lsJ3_checkIndex_8e157 ⟨Nat.le_of_ble_eq_true rfl, Nat.le_of_ble_eq_true rfl⟩ ⟨Nat.le_of_ble_eq_true rfl, Nat.le_of_ble_eq_true rfl⟩ (Nat.le_of_ble_eq_true rfl) (dk rfl) ?_
    rintro _ _ ⟨rfl, rfl⟩
    refine fst1_ok X (dk rfl) rfl ?_
    exact retv_ok X hr hlk (dk rfl) ⟨rfl, rfl⟩ (Nat.le_of_ble_eq_true rfl) (Nat.le_of_ble_eq_true rfl)
  · refine callS_ok (av := [vI j, vI nn, .ref t]) (r := []) X E (t_pciR h hj hn t) lkJ3_checkIndex_8e157 mlJ0_1059 lsJ3_checkIndex_8e157 ⟨Nat.le_of_ble_eq_true rfl, Nat.le_of_ble_eq_true rfl⟩ ⟨Nat.le_of_ble_eq_true rfl, Nat.le_of_ble_eq_true rfl⟩ (Nat.le_of_ble_eq_true rfl) (dk rfl) ?_
    rintro _ _ ⟨rfl, rfl⟩
    refine fst1_ok X (dk rfl) rfl ?_
    exact retv_ok X hr hlk (dk rfl) ⟨rfl, rfl⟩ (Nat.le_of_ble_eq_true rfl) (Nat.le_of_ble_eq_true rfl)
set_option maxHeartbeats 2000000 in
theorem t_lchar (h : AH) {i va : Nat} (hi : i < 5) (hva : va = D.2 51 i) {j : Nat} (hj : j < scL.getD i 0) : CT la D cA B0 pa yJ1_charAt_3b067 cJ1_charAt_3b067 2 (some .char) (rmD 2 0 0) [.ref va, vI j] h (fun r h' => (∃ c0 : Nat, c0 < 256 ∧ r = some (vI c0)) ∧ h' = h) := by
  refine CT_of (by decide +kernel) (Nat.le_of_ble_eq_true rfl) ?_
  intro p e s m args below meth c X E hr hlk hnm
  have dk : ∀ {pc : Nat} {q : Instr × Nat}, lkd DJ1_charAt_3b067 pc = some q → decode cJ1_charAt_3b067 pc = .ok q := lkd_ok DJ1_charAt_3b067_ok
  have hs : StrC D (D.2 50 i) va (scL.getD i 0) ∨ StrH h (D.2 50 i) va (scL.getD i 0) := Or.inl ⟨i, hi, rfl, hva, rfl⟩
  have hL := scL_le i hi
  iterate 2 refine fst1_ok X (dk rfl) rfl ?_
  refine strL_ok X E hs (dk rfl) ?_
  refine callS_ok (av := [vI j, vI (scL.getD i 0)]) (r := []) X E (t_ci h hj (by omega)) lkJ0_checkIndex_df160 mlJ1_9 lsJ0_checkIndex_df160 ⟨Nat.le_of_ble_eq_true rfl, Nat.le_of_ble_eq_true rfl⟩ ⟨Nat.le_of_ble_eq_true rfl, Nat.le_of_ble_eq_true rfl⟩ (Nat.le_of_ble_eq_true rfl) (dk rfl) ?_
  rintro _ _ ⟨rfl, rfl⟩
  iterate 2 refine fst1_ok X (dk rfl) rfl ?_
  subst hva
  refine lld_ok X E hi hj (dk rfl) (fun x => ?_)
  iterate 2 refine fst1_ok X (dk rfl) rfl ?_
  obtain ⟨c0, hc0, e0⟩ := andc x
  rw [e0]
  refine fst1_ok X (dk rfl) rfl ?_
  refine reti_ok X hr hlk ?_ (dk rfl) ⟨⟨c0, hc0, ?_⟩, rfl⟩ (Nat.le_of_ble_eq_true rfl) (Nat.le_of_ble_eq_true rfl)
  · rw [i2cN hc0]; exact nchar hc0
  · rw [i2cN hc0]; rfl
theorem t_char (h : AH) {i : Nat} (hi : i < 5) {j : Nat} (hj : j < scL.getD i 0) : CT la D cA B0 pa yJ0_charAt_5068e cJ0_charAt_5068e 2 (some .char) (rmD 3 0 0) [.ref (D.2 50 i), vI j] h (fun r h' => (∃ c0 : Nat, c0 < 256 ∧ r = some (vI c0)) ∧ h' = h) := by
  refine CT_of (by decide +kernel) (Nat.le_of_ble_eq_true rfl) ?_
  intro p e s m args below meth c X E hr hlk hnm
  have dk : ∀ {pc : Nat} {q : Instr × Nat}, lkd DJ0_charAt_5068e pc = some q → decode cJ0_charAt_5068e pc = .ok q := lkd_ok DJ0_charAt_5068e_ok
  have hs : StrC D (D.2 50 i) (D.2 51 i) (scL.getD i 0) ∨ StrH h (D.2 50 i) (D.2 51 i) (scL.getD i 0) := Or.inl ⟨i, hi, rfl, rfl, rfl⟩
  have S : StrA D h (D.2 50 i) (scL.getD i 0) := ⟨_, hs⟩
  refine fst1_ok X (dk rfl) rfl ?_
  refine callT_ok (av := []) (r := []) X E hs (t_slat h S) lkJ0_isLatin1_aae02 mlJ0_492 lmJ0_isLatin1_aae02 lvJ0_isLatin1_aae02 ⟨Nat.le_of_ble_eq_true rfl, Nat.le_of_ble_eq_true rfl⟩ ⟨Nat.le_of_ble_eq_true rfl, Nat.le_of_ble_eq_true rfl⟩ (Nat.le_of_ble_eq_true rfl) (dk rfl) ?_
  rintro _ _ ⟨rfl, rfl⟩
  refine br_ok X (dk rfl) rfl (show ((4 : Nat) : Int) + 12 = ((16 : Nat) : Int) from rfl) (fun q => absurd q (by decide)) (fun _ => ?_)
  refine fst1_ok X (dk rfl) rfl ?_
  refine strV_ok X E hs (dk rfl) ?_
  refine fst1_ok X (dk rfl) rfl ?_
  refine callS_ok (av := [.ref (D.2 51 i), vI j]) (r := []) X E (t_lchar _ hi rfl hj) lkJ1_charAt_3b067 mlJ0_495 lsJ1_charAt_3b067 ⟨Nat.le_of_ble_eq_true rfl, Nat.le_of_ble_eq_true rfl⟩ ⟨Nat.le_of_ble_eq_true rfl, Nat.le_of_ble_eq_true rfl⟩ (Nat.le_of_ble_eq_true rfl) (dk rfl) ?_
  rintro _ _ ⟨⟨c0, hc0, rfl⟩, rfl⟩
  exact reti_ok X hr hlk (nchar hc0) (dk rfl) ⟨⟨c0, hc0, rfl⟩, rfl⟩ (Nat.le_of_ble_eq_true rfl) (Nat.le_of_ble_eq_true rfl)
end M98h
