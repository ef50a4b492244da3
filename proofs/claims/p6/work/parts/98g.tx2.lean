/-! texts: copies of rows, clones; weak contracts of the builder and of strings (printed by wip/p40/genTx.py) -/
set_option maxRecDepth 100000 in
theorem acpN : Cond.native arraycopyName ∈ WT := WT_of (by decide +kernel) rfl
set_option maxRecDepth 100000 in
theorem acpS : Cond.static arraycopyName ∈ WT := WT_of (by decide +kernel) rfl
set_option maxRecDepth 100000 in
theorem acpI : Cond.initialized "java/lang/System" ∈ WT := WT_of (tbw_1 (List.mem_of_getElem? (i := 28) rfl)) rfl
def yClone : MethodName := ⟨"java/lang/Object", "clone", "()Ljava/lang/Object;"⟩
def yCloneB : MethodName := ⟨"[B", "clone", "()Ljava/lang/Object;"⟩
set_option maxRecDepth 100000 in
theorem clnL : Cond.methodLink RJ7 310 yCloneB ∈ WT := WT_of (tbw_5 (List.mem_of_getElem? (i := 10) rfl)) rfl
set_option maxRecDepth 100000 in
theorem clnS : Cond.sameMethod "[B" "java/lang/Object" "clone" "()Ljava/lang/Object;" ∈ WT := WT_of (tbw_5 (List.mem_of_getElem? (i := 11) rfl)) rfl
set_option maxRecDepth 100000 in
theorem clnN : Cond.native yClone ∈ WT := WT_of (tbw_5 (List.mem_of_getElem? (i := 12) rfl)) rfl
set_option maxRecDepth 100000 in
theorem clnI : Cond.instanceMethod yClone ∈ WT := WT_of (tbw_5 (List.mem_of_getElem? (i := 13) rfl)) rfl
set_option maxRecDepth 100000 in
theorem clnV : Cond.selects "[B" yCloneB yClone ∈ WT := WT_of (tbw_5 (List.mem_of_getElem? (i := 14) rfl)) rfl
set_option maxRecDepth 100000 in
theorem cstB : Cond.classLink RJ7 311 "[B" ∈ WT := WT_of (tbw_5 (List.mem_of_getElem? (i := 16) rfl)) rfl
set_option maxRecDepth 100000 in
theorem acpJ7 : Cond.methodLink RJ7 150 arraycopyName ∈ WT := WT_of (tbw_5 (List.mem_of_getElem? (i := 18) rfl)) rfl
set_option maxRecDepth 100000 in
theorem acpJ0 : Cond.methodLink RJ0 212 arraycopyName ∈ WT := WT_of (tbw_5 (List.mem_of_getElem? (i := 157) rfl)) rfl
set_option maxRecDepth 100000 in
theorem glJ5_18 : Cond.fieldLink RJ5 18 "java/lang/String" "COMPACT_STRINGS" "Z" ∈ WT := WT_of (tbw_4 (List.mem_of_getElem? (i := 150) rfl)) rfl
set_option maxRecDepth 100000 in
theorem glJ0_38 : Cond.fieldLink RJ0 38 "java/lang/String" "COMPACT_STRINGS" "Z" ∈ WT := WT_of (tbw_4 (List.mem_of_getElem? (i := 184) rfl)) rfl
set_option maxRecDepth 100000 in
theorem glJ0_1053 : Cond.fieldLink RJ0 1053 "jdk/internal/util/Preconditions" "SIOOBE_FORMATTER" "Ljava/util/function/BiFunction;" ∈ WT := WT_of (tbw_4 (List.mem_of_getElem? (i := 199) rfl)) rfl
set_option maxRecDepth 100000 in
theorem ml5_objB : Cond.methodLink RJ5 3 Lib.objectInit ∈ WT := WT_of (tbw_4 (List.mem_of_getElem? (i := 149) rfl)) rfl
set_option maxRecDepth 100000 in
theorem ml0_objB : Cond.methodLink RJ0 1 Lib.objectInit ∈ WT := WT_of (tbw_5 (List.mem_of_getElem? (i := 67) rfl)) rfl
set_option maxRecDepth 100000 in
theorem csJ8_200 : Cond.constant RJ8 200 2147483639 ∈ WT := WT_of (tbw_5 (List.mem_of_getElem? (i := 2) rfl)) rfl
set_option maxRecDepth 100000 in
theorem csJ5_39 : Cond.constant RJ5 39 2147483647 ∈ WT := WT_of (tbw_5 (List.mem_of_getElem? (i := 6) rfl)) rfl
set_option maxRecDepth 100000 in
theorem spJ4 : Cond.superclass RJ4 RJ5 ∈ WT := WT_of (tbw_4 (List.mem_of_getElem? (i := 171) rfl)) rfl
set_option maxRecDepth 100000 in
theorem smJ5_app : Cond.sameMethod RJ5 RJ5 yJ5_append_3fe6f.name yJ5_append_3fe6f.desc ∈ WT := WT_of (tbw_8 (List.mem_of_getElem? (i := 49) rfl)) rfl
set_option maxRecDepth 100000 in
theorem smJ5_apps : Cond.sameMethod RJ5 RJ5 yJ5_append_cf1ce.name yJ5_append_cf1ce.desc ∈ WT := WT_of (tbw_8 (List.mem_of_getElem? (i := 54) rfl)) rfl
set_option maxRecDepth 100000 in
theorem smJ5_ens : Cond.sameMethod RJ5 RJ5 yJ5_ensureCapacityInternal_d00df.name yJ5_ensureCapacityInternal_d00df.desc ∈ WT := WT_of (tbw_8 (List.mem_of_getElem? (i := 50) rfl)) rfl
set_option maxRecDepth 100000 in
theorem smJ5_ncap : Cond.sameMethod RJ5 RJ5 yJ5_newCapacity_0f7a4.name yJ5_newCapacity_0f7a4.desc ∈ WT := WT_of (tbw_8 (List.mem_of_getElem? (i := 51) rfl)) rfl
set_option maxRecDepth 100000 in
theorem smJ5_put : Cond.sameMethod RJ5 RJ5 yJ5_putStringAt_47b60.name yJ5_putStringAt_47b60.desc ∈ WT := WT_of (tbw_8 (List.mem_of_getElem? (i := 56) rfl)) rfl
set_option maxRecDepth 100000 in
theorem smJ5_inf : Cond.sameMethod RJ5 RJ5 yJ5_inflateIfNeededFor_a7421.name yJ5_inflateIfNeededFor_a7421.desc ∈ WT := WT_of (tbw_8 (List.mem_of_getElem? (i := 57) rfl)) rfl
set_option maxRecDepth 100000 in
theorem smJ5_lat : Cond.sameMethod RJ5 RJ5 yJ5_isLatin1_aae02.name yJ5_isLatin1_aae02.desc ∈ WT := WT_of (tbw_5 (List.mem_of_getElem? (i := 23) rfl)) rfl
set_option maxRecDepth 100000 in
theorem smJ5_val : Cond.sameMethod RJ5 RJ5 yJ5_getValue_6d5f1.name yJ5_getValue_6d5f1.desc ∈ WT := WT_of (tbw_5 (List.mem_of_getElem? (i := 70) rfl)) rfl
set_option maxRecDepth 100000 in
theorem smJ5_len : Cond.sameMethod RJ5 RJ5 yJ5_length_8abf5.name yJ5_length_8abf5.desc ∈ WT := WT_of (tbw_5 (List.mem_of_getElem? (i := 75) rfl)) rfl
set_option maxRecDepth 100000 in
theorem slJ5_lat : Cond.selects RJ4 yJ5_isLatin1_aae02 yJ5_isLatin1_aae02 ∈ WT := WT_of (tbw_5 (List.mem_of_getElem? (i := 24) rfl)) rfl
set_option maxRecDepth 100000 in
theorem slJ5_val : Cond.selects RJ4 yJ5_getValue_6d5f1 yJ5_getValue_6d5f1 ∈ WT := WT_of (tbw_5 (List.mem_of_getElem? (i := 71) rfl)) rfl
set_option maxRecDepth 100000 in
theorem slJ5_len : Cond.selects RJ4 yJ5_length_8abf5 yJ4_length_8abf5 ∈ WT := WT_of (tbw_5 (List.mem_of_getElem? (i := 76) rfl)) rfl
theorem slJ5_ens : Cond.selects RJ4 yJ5_ensureCapacityInternal_d00df yJ5_ensureCapacityInternal_d00df ∈ WT := List.mem_append_right _ (by unfold selT; simp)
theorem slJ5_ncap : Cond.selects RJ4 yJ5_newCapacity_0f7a4 yJ5_newCapacity_0f7a4 ∈ WT := List.mem_append_right _ (by unfold selT; simp)
theorem slJ5_put : Cond.selects RJ4 yJ5_putStringAt_47b60 yJ5_putStringAt_47b60 ∈ WT := List.mem_append_right _ (by unfold selT; simp)
theorem slJ5_inf : Cond.selects RJ4 yJ5_inflateIfNeededFor_a7421 yJ5_inflateIfNeededFor_a7421 ∈ WT := List.mem_append_right _ (by unfold selT; simp)
theorem sh0 (x : Int32) : x >>> ((0 : Int32) &&& 31) = x := by rw [show ((0 : Int32) &&& 31) = 0 by decide]; simp
theorem sl0 (x : Int32) : x <<< ((0 : Int32) &&& 31) = x := by rw [show ((0 : Int32) &&& 31) = 0 by decide]; simp
theorem i255 : (Int16.ofInt 255).toInt32 = nI 255 := by decide +kernel
/-- every cell stays, but the builder and its row -/
def SBG (B0 : Nat) (h h' : AH) (b v : Nat) : Prop := ∀ (a : Nat) (c : AC), a ≠ b → a ≠ v → h a = some c → h' a = some c
def NewB (B0 : Nat) (h : AH) (N : Nat) (r : Option Value) (h' : AH) : Prop := ∃ (q : Nat) (bs : List Int32), r = some (.ref q) ∧ h q = none ∧ B0 ≤ q ∧ h' q = some (102, bs.map Value.int) ∧ (∀ a : Nat, a ≠ q → h' a = h a) ∧ bs.length = N ∧ BF bs
/-- a builder after a step: the row v' is the old one or a new one; every other cell stays -/
def SBQ (B0 : Nat) (h : AH) (b v n m : Nat) (h' : AH) : Prop := ∃ v', SBp h' b v' n m ∧ (v' = v ∨ (h v' = none ∧ B0 ≤ v')) ∧ SBG B0 h h' b v
theorem SBp.ne {h : AH} {b v n m : Nat} (B : SBp h b v n m) : b ≠ v := by
  obtain ⟨t, bs, h1, h2, -⟩ := B
  intro z
  rw [← z, h1] at h2
  cases h2
theorem SBp.tov {h : AH} {b v n m : Nat} (B : SBp h b v n m) : h v ≠ none := by
  obtain ⟨t, bs, h1, h2, -⟩ := B
  rw [h2]
  exact fun z => by cases z
theorem SBG.trans {B0 : Nat} {h1 h2 h3 : AH} {b v v2 : Nat} (x : SBG B0 h1 h2 b v) (hv : v2 = v ∨ h1 v2 = none) (y : SBG B0 h2 h3 b v2) : SBG B0 h1 h3 b v := by
  intro a c g1 g2 g3
  refine y a c g1 ?_ (x a c g1 g2 g3)
  rcases hv with rfl | hv
  · exact g2
  · exact fun z => by rw [z, hv] at g3; cases g3
section TX2
variable {p : Program} {la : Launch} {e : Env} {R : Room} {s : State} {m : MethodId} {args : Array Value} {below : List Frame} {meth : Method} {c : Code} {Q : State → Prop}
variable {D : va_G} {cA : Nat → ClassId} {B0 pa nL : Nat} {cc : ByteArray} {own : String} {pc k n : Nat} {l : List (Nat × Value)} {r : List Value} {h : AH}
theorem nn32 (z : Int32) (hz : ¬ z < 0) : z.toInt = (z.toNatClampNeg : Int) := by
  have hz0 : (0 : Int) ≤ z.toInt := by
    have := Int32.not_lt.mp hz
    simpa using Int32.le_iff_toInt_le.mp this
  show z.toInt = ((z.toInt.toNat : Nat) : Int)
  omega
theorem row_at {kd : Nat} (X : CX p s m args c D cA B0 nL cc own) {H : Heap} {locs : List Loc} (hH : HS D cA B0 s h H locs) {a : Nat} {bs : List Int32} (ha : h a = some (102, bs.map Value.int)) (_ : kd = 102) : H[a]? = some (vp_cell (cA 102) (bs.length, .inl (fun j => bs.getD j 0))) := by
  obtain ⟨-, hc⟩ := (hH.1 a _ ha).2.2 (show ¬ 102 < 100 by omega)
  rw [hc]
  exact congrArg some (arr_cell (cA 102) bs)
/-- the machine's copy: from a cell of the heap that holds n0 bytes into a row -/
theorem acopyG (X : CX p s m args c D cA B0 nL cc own) {idx sa da : Nat} {gs : List Int32} {n0 sp dp z : Nat} {f : Nat → Int32} (hl : Cond.methodLink own idx arraycopyName ∈ WT)
    (hs : ∀ (H : Heap) (locs : List Loc), HS D cA B0 s h H locs → ∃ scr : Cell, H[sa]? = some scr ∧ s.isArrayOf scr .byte ∧ scr.vm ≠ .unknown ∧ n0 ≤ scr.slots.size ∧ ∀ j : Nat, j < n0 → scr.slots[j]? = some (.int (f j)))
    (hda : h da = some (102, gs.map Value.int)) (hf : sb_Fit f) (h4 : sp + z ≤ n0) (h5 : dp + z ≤ gs.length) (hb1 : n0 < 2 ^ 20) (hb2 : gs.length < 2 ^ 20)
    (hfr : 1 ≤ R.frames) (hlo : (r.map fun v => v.category).sum + (nativeFrameWords "java/lang/System" "arraycopy" 5 + 11) ≤ R.locals) (hd : decode cc pc = .ok (.invokestatic idx, 3))
    (kk : ∀ gs' : List Int32, gs'.length = gs.length → (BF gs → BF gs') → WS p la e R s m args below meth c Q D cA B0 nL (pc + 3) l r (hup h da (102, gs'.map Value.int)) k n) : WS p la e R s m args below meth c Q D cA B0 nL pc l (vI z :: vI dp :: .ref da :: vI sp :: .ref sa :: r) h k n := by
  have hX := X
  obtain ⟨hx, hb, hml, hown, hts, hK, hB⟩ := X
  intro H locs ls hH hls
  intro T hT XX
  obtain ⟨scr, hc0, hs2, hs3, hs4, hs5⟩ := hs H locs hH
  have hc1 := row_at (kd := 102) hX hH hda rfl
  obtain ⟨hs6, k0, hk0, cm0, hkk0⟩ := hs2
  obtain ⟨-, k1, hk1, cm1, hkk1⟩ := (hK.arr (k := 102) (by omega) (by omega)) gs.length (fun j => .int (gs.getD j 0))
  have es : (nI sp).toNatClampNeg = sp := nI_clamp (by omega)
  have ed : (nI dp).toNatClampNeg = dp := nI_clamp (by omega)
  have ez : (nI z).toNatClampNeg = z := nI_clamp (by omega)
  have ps : ¬ nI sp < 0 := nI_pos (by omega)
  have pd : ¬ nI dp < 0 := nI_pos (by omega)
  have pz : ¬ nI z < 0 := nI_pos (by omega)
  obtain ⟨vm', X', step⟩ := XX.arraycopy hx hown (hts _ hl) (hts _ acpN) (hts _ acpS) (hts _ acpI) (src := sa) (dst := da) (cs := scr) (cd := vp_cell (cA 102) (gs.length, .inl (fun j => gs.getD j 0))) (srcPos := nI sp) (destPos := nI dp) (n := nI z) (by rw [hT]; exact hc0) (by rw [hT]; exact hc1)
    hs6 (fun _ h => by cases h) hs3 (fun h => by cases h) hk0 hk1 hkk0 hkk1 (by rw [show aty 102 = FieldType.byte from rfl]; simp [refKind]) ps pd pz
    (by rw [nn32 _ ps, nn32 _ pz, es, ez]; omega)
    (by rw [nn32 _ pd, nn32 _ pz, ed, ez]; show ¬ _ > ((arrV (cA 102) gs.length (fun j => .int (gs.getD j 0))).slots.size : Int); rw [arrV_size]; omega)
    (fun vm₁ _ i hi => by
      rw [ez] at hi
      have e : scr.slots.getD ((nI sp).toNatClampNeg + i) .null = .int (f ((nI sp).toNatClampNeg + i)) := by
        rw [Array.getD_eq_getD_getElem?, hs5 _ (by omega)]
        rfl
      refine ⟨?_, ?_⟩
      · rw [e]
        exact hf _
      · rw [e]
        exact trivial)
    (g := F0 m pc ls (vI z :: vI dp :: .ref da :: vI sp :: .ref sa :: r)) rfl (by rw [hml.trans hls.1.symm]) (rest := r) rfl (by rw [hb]; exact hd) hfr (by show 2 * 0 + _ + _ ≤ _; omega)
  have e1 : copied scr (vp_cell (cA 102) (gs.length, .inl (fun j => gs.getD j 0))) (nI sp) (nI dp) (nI z) = vp_cell (cA 102) (gs.length, .inl (va_cpy f (fun j => gs.getD j 0) (nI sp).toNatClampNeg (nI dp).toNatClampNeg (nI z).toNatClampNeg)) := va_copiedX (fun z => .int z) scr (cA 102) f (fun j => gs.getD j 0) hs5 (by rw [es, ez]; exact h4)
  rw [es, ed, ez] at e1
  generalize hgn : va_cpy f (fun j => gs.getD j 0) sp dp z = fn at e1
  rw [e1] at X' step
  have hlt : da < H.size := (Array.getElem?_eq_some_iff.mp hc1).1
  have hheap : ((T.setVm vm').setCell da (vp_cell (cA 102) (gs.length, .inl fn))).heap = H.setIfInBounds da (vp_cell (cA 102) (gs.length, .inl fn)) := by rw [← hT]; rfl
  have oq : ∀ q : Nat, q ≠ da → (H.setIfInBounds da (vp_cell (cA 102) (gs.length, .inl fn)))[q]? = H[q]? := fun q hq => by simp [Array.getElem?_setIfInBounds, Ne.symm hq]
  have hBd : B0 ≤ da := (hH.1 da _ hda).1
  obtain ⟨t, a1, b1⟩ := kk ((List.range gs.length).map fn) (by simp) (fun hg => BF_mk (by rw [← hgn]; exact sb_fitC hf (BF_get hg))) (H.setIfInBounds da (vp_cell (cA 102) (gs.length, .inl fn))) _ ls ⟨hH.1.put hda ⟨fun z => absurd z (show ¬ 102 < 100 by omega), fun _ => ⟨(show 102 < 108 by omega), (by
      rw [arr_cell2]
      simp [Array.getElem?_setIfInBounds, hlt])⟩⟩ oq, ⟨by simp; exact hH.2.1, fun q g1 g2 => by
      rw [oq q (fun e => g2 (by rw [e]; exact hBd))]
      exact hH.2.2.1 q g1 g2, fun q hq => by
      rcases List.mem_append.mp hq with h | h
      · exact hH.2.2.2 q h
      · obtain ⟨z, -, hz⟩ := List.mem_map.mp h
        rw [← hz]
        exact hBd⟩⟩ hls _ hheap X'
  exact ⟨t, step t a1, b1⟩
theorem acopyH (X : CX p s m args c D cA B0 nL cc own) {idx sa da : Nat} {fs gs : List Int32} {sp dp z : Nat} (hl : Cond.methodLink own idx arraycopyName ∈ WT) (hsa : h sa = some (102, fs.map Value.int))
    (hda : h da = some (102, gs.map Value.int)) (hf : BF fs) (h4 : sp + z ≤ fs.length) (h5 : dp + z ≤ gs.length) (hb1 : fs.length < 2 ^ 20) (hb2 : gs.length < 2 ^ 20)
    (hfr : 1 ≤ R.frames) (hlo : (r.map fun v => v.category).sum + (nativeFrameWords "java/lang/System" "arraycopy" 5 + 11) ≤ R.locals) (hd : decode cc pc = .ok (.invokestatic idx, 3))
    (kk : ∀ gs' : List Int32, gs'.length = gs.length → (BF gs → BF gs') → WS p la e R s m args below meth c Q D cA B0 nL (pc + 3) l r (hup h da (102, gs'.map Value.int)) k n) : WS p la e R s m args below meth c Q D cA B0 nL pc l (vI z :: vI dp :: .ref da :: vI sp :: .ref sa :: r) h k n :=
  acopyG X (f := fun j => fs.getD j 0) (n0 := fs.length) hl (fun H locs hH => ⟨_, row_at (kd := 102) X hH hsa rfl, (X.2.2.2.2.2.1.arr (k := 102) (by omega) (by omega)) fs.length (fun j => .int (fs.getD j 0)), (fun h => by cases h), (by show fs.length ≤ (arrV _ _ _).slots.size; rw [arrV_size]; exact Nat.le_refl _), fun j hj => arrV_read _ _ hj⟩) hda (BF_get hf) h4 h5 hb1 hb2 hfr hlo hd kk
theorem BF_con (i : Nat) (hi : i < 5) : sb_Fit (fun j => (scB.getD i []).getD j 0) := by
  refine BF_get ?_
  match i, hi with
  | 0, _ => exact fun x hx => by cases hx
  | 1, _ => exact fun x hx => by rw [List.mem_singleton.mp hx]; decide
  | 2, _ => exact fun x hx => by rw [List.mem_singleton.mp hx]; decide
  | 3, _ => exact fun x hx => by rw [List.mem_singleton.mp hx]; decide
  | 4, _ => show ∀ x ∈ ([75, 76, 77, 78, 80, 81, 83, 84] : List Int32), fits .byte (.int x) = true; decide
theorem acopyS (X : CX p s m args c D cA B0 nL cc own) (E : EN D cA B0 pa s) {idx sa va da nn : Nat} {gs : List Int32} {dp : Nat} (hl : Cond.methodLink own idx arraycopyName ∈ WT) (hs : StrC D sa va nn ∨ StrH h sa va nn)
    (hda : h da = some (102, gs.map Value.int)) (h5 : dp + nn ≤ gs.length) (hb2 : gs.length < 2 ^ 20)
    (hfr : 1 ≤ R.frames) (hlo : (r.map fun v => v.category).sum + (nativeFrameWords "java/lang/System" "arraycopy" 5 + 11) ≤ R.locals) (hd : decode cc pc = .ok (.invokestatic idx, 3))
    (kk : ∀ gs' : List Int32, gs'.length = gs.length → (BF gs → BF gs') → WS p la e R s m args below meth c Q D cA B0 nL (pc + 3) l r (hup h da (102, gs'.map Value.int)) k n) : WS p la e R s m args below meth c Q D cA B0 nL pc l (vI nn :: vI dp :: .ref da :: vI 0 :: .ref va :: r) h k n := by
  rcases hs with ⟨i, hi, rfl, rfl, rfl⟩ | ⟨x, y, bs, h1, h2, h3, h4⟩
  · refine acopyG X (n0 := scL.getD i 0) (f := fun j => (scB.getD i []).getD j 0) hl (fun H locs hH => ?_) hda (BF_con i hi) (by omega) h5 (by have := scL_le i hi; omega) hb2 hfr hlo hd kk
    obtain ⟨scr, g1, g2, g3, g4, -, g5, g7⟩ := (E.2.2.2.1.2.2.2.2.2.2.2.1.1 i hi).2.2.2
    exact ⟨scr, by rw [hH.2.2.1 _ (Array.getElem?_eq_some_iff.mp g1).1 g7]; exact g1, g2, g3, g4, g5⟩
  · exact acopyH X hl h2 hda h4 (by omega) h5 (by omega) hb2 hfr hlo hd kk
theorem clone_ok (X : CX p s m args c D cA B0 nL cc RJ7) (E : EN D cA B0 pa s) {a : Nat} {bs : List Int32} (ha : h a = some (102, bs.map Value.int)) (hf : BF bs)
    (hfr : 1 ≤ R.frames) (hlo : (r.map fun v => v.category).sum + 14 ≤ R.locals) (hr1 : k + 1 ≤ R.cells) (hr2 : n + bs.length ≤ R.slots) (hd : decode cc pc = .ok (.invokevirtual 310, 3))
    (kk : ∀ q : Nat, h q = none → B0 ≤ q → WS p la e R s m args below meth c Q D cA B0 nL (pc + 3) l (.ref q :: r) (hup h q (102, bs.map Value.int)) (k + 1) (n + bs.length)) : WS p la e R s m args below meth c Q D cA B0 nL pc l (.ref a :: r) h k n := by
  have hX := X
  obtain ⟨hx, hb, hml, hown, hts, hK, hB⟩ := X
  have hcl : va_Nw (.castable "[B" "java/lang/Cloneable") s := E.2.1 _ (by decide +kernel) rfl
  obtain ⟨c0, t0', f1, f2, f3⟩ := Cond.castable_spec (va_Nw.use (A := args) rfl hcl)
  have hnm : s.vm.findClass "[B" = some (cA 102) := by
    obtain ⟨_, _, -, -, k3, -⟩ := hK.2 102 (by decide) (by decide)
    exact k3
  cases hnm.symm.trans f1
  intro H locs ls hH hls
  have hBH : B0 ≤ H.size := Nat.le_trans hB hH.2.1
  have hc1 := row_at (kd := 102) hX hH ha rfl
  intro T hT XX
  have hsz : (vp_cell (cA 102) (bs.length, .inl (fun j => bs.getD j 0))).slots.size = bs.length := arrV_size _ _ _
  obtain ⟨-, kA, hkA, comp, hkind⟩ := State.isArrayOf_alike XX.warmed.alike ((hK.arr (k := 102) (by omega) (by omega)) 0 (fun _ => .null))
  obtain ⟨-, kS, hkS, compS, hkindS⟩ := (hK.arr (k := 102) (by omega) (by omega)) 0 (fun _ => .null)
  obtain ⟨vm', X', st⟩ := XX.cloneArray hx hown (hts _ clnL) (hts _ clnS) (hts _ clnN) (hts _ clnI) (hts _ clnV) (a := a) (cell := vp_cell (cA 102) (bs.length, .inl (fun j => bs.getD j 0))) (by rw [hT]; exact hc1) (fun k h => by cases h) (fun h => by cases h) hnm f2 f3
    (fun i v hv => by
      have hk' : T.vm.classes[cA 102]? = some kA := hkA
      have hv' : fits .byte v = true := by
        have hi : i < bs.length := by rw [← hsz]; exact (Array.getElem?_eq_some_iff.mp hv).1
        have e : (vp_cell (cA 102) (bs.length, .inl (fun j => bs.getD j 0))).slots[i]? = some (.int (bs.getD i 0)) := arrV_read _ _ hi
        rw [e] at hv
        cases hv
        exact BF_get hf i
      have hcl0 : (vp_cell (cA 102) (bs.length, .inl (fun j => bs.getD j 0))).cls = cA 102 := rfl
      rw [hcl0]
      rw [show aty 102 = FieldType.byte from rfl] at hkind
      simpa [State.fitsSlot, State.slotType?, hk', hkind] using hv')
    (g := F0 m pc ls (.ref a :: r)) rfl (by rw [hml.trans hls.1.symm]) rfl (by rw [hb]; exact hd) hfr (by show 2 * 0 + _ + 14 ≤ _; omega) hr1 (by rw [hsz]; exact hr2) (hloader := Vm.clonesLoader_of_array hkS hkindS)
  have hcellE : ({ cls := (vp_cell (cA 102) (bs.length, .inl (fun j => bs.getD j 0))).cls, slots := (vp_cell (cA 102) (bs.length, .inl (fun j => bs.getD j 0))).slots } : Cell) = vp_cell (cA 102) (bs.length, .inl (fun j => bs.getD j 0)) := rfl
  rw [hcellE, hsz] at X'
  generalize hH1 : H.push (vp_cell (cA 102) (bs.length, .inl (fun j => bs.getD j 0))) = H1
  have z1 : H1.size = H.size + 1 := by rw [← hH1, Array.size_push]
  have e1 : H1[H.size]? = some (vp_cell (cA 102) (bs.length, .inl (fun j => bs.getD j 0))) := by rw [← hH1, Array.getElem?_push_size]
  have o1 : ∀ q : Nat, q < H.size → H1[q]? = H[q]? := fun q hq => by rw [← hH1, Array.getElem?_push, if_neg (Nat.ne_of_lt hq)]
  obtain ⟨t, b1, b2⟩ := kk H.size hH.1.fresh hBH H1 locs ls ⟨hH.1.push hBH ⟨fun z => absurd z (show ¬ 102 < 100 by omega), fun _ => ⟨(show 102 < 108 by omega), (by
      rw [e1]
      exact congrArg some (arr_cell (cA 102) bs).symm)⟩⟩ o1, Nat.le_trans hH.2.1 (by omega), fun x h1 h2 => (o1 x (Nat.lt_of_lt_of_le h1 hH.2.1)).trans (hH.2.2.1 x h1 h2), hH.2.2.2⟩ hls
    ((T.setVm vm').pushCell (vp_cell (cA 102) (bs.length, .inl (fun j => bs.getD j 0)))) (by rw [← hH1, ← hT]; rfl) X'
  refine ⟨t, st t ?_, b2⟩
  rw [hcellE, hT]
  exact b1
theorem castB_ok (X : CX p s m args c D cA B0 nL cc RJ7) {a : Nat} {bs : List Int32} (ha : h a = some (102, bs.map Value.int)) (hd : decode cc pc = .ok (.checkcast 311, 3))
    (kk : WS p la e R s m args below meth c Q D cA B0 nL (pc + 3) l (.ref a :: r) h k n) : WS p la e R s m args below meth c Q D cA B0 nL pc l (.ref a :: r) h k n := by
  intro H locs ls hH hls
  refine va_castE X.1 X.2.1 X.2.2.2.1 (X.2.2.2.2.1 _ cstB) ⟨_, row_at (kd := 102) X hH ha rfl, rfl, ?_⟩ hd (kk H locs ls hH hls)
  obtain ⟨_, _, -, -, k3, -⟩ := X.2.2.2.2.2.1.2 102 (by decide) (by decide)
  exact k3
end TX2
