/-! the class's object; loops over numbers of a range; entries of a row of references -/
def objφ (S A sp os wd ow sa oa bs bc sh : Nat) (kn : Int32) : AC → Prop := fun c => ∃ d r : Int32, c = (8, [.ref S, .ref A, .int d, .int r, .int kn, .ref sp, .ref os, .ref wd, .ref ow, .ref sa, .ref oa, .ref bs, .ref bc, .ref sh])
theorem tm_long00 {q L : Nat} {t : Bool} : termφ q L (7, ([.ref q, .int (Int32.ofInt 0), .int (bI t)] : List Value).set 2 (.int (Int32.ofInt 0))) := ⟨0, false, rfl, Nat.zero_le _⟩
theorem loopN {P : Nat → Prop} {K : Nat} (st : ∀ i, i ≤ K → (i < K → P (i + 1)) → P i) (i : Nat) (hi : i ≤ K) : P i := by
  have key : ∀ d i, i + d = K → P i := by
    intro d
    induction d with
    | zero => intro i h; exact st i (by omega) (fun z => absurd z (by omega))
    | succ d ih => intro i h; exact st i (by omega) (fun _ => ih (i + 1) (by omega))
  exact key (K - i) i (by omega)
theorem nat_lt {i K : Nat} (hi : i < 2 ^ 31 ∧ K < 2 ^ 31) (c : ¬ nI K ≤ nI i) : i < K := nI_lt' hi.1 hi.2 c
theorem vI_succ (i : Nat) : Value.int (nI i + Int32.ofInt 1) = vI (i + 1) := congrArg Value.int (by rw [nI_1', nI_add])
section TY2
variable {p : Program} {la : Launch} {e : Env} {R : Room} {s : State} {m : MethodId} {args : Array Value} {below : List Frame} {meth : Method} {c : Code} {Q : State → Prop}
variable {D : va_G} {cA : Nat → ClassId} {B0 pa nL : Nat} {cc : ByteArray} {own : String} {pc k n : Nat} {l : List (Nat × Value)} {r : List Value} {h h0 : AH} {Γ : TY}
theorem aldx_ok (X : CX p s m args c D cA B0 nL cc own) {a kd K : Nat} {j : Int32} {as : List Nat} {φ : Nat → Prop} (hkd : kd = 103 ∨ kd = 104) (hK : K ≤ 1000) (hd : decode cc pc = .ok (.aaload, 1)) (ha : h a = some (kd, as.map Value.ref)) (hl : as.length = K) (ht : ∀ t ∈ as, φ t) (hj : inN K j)
    (kk : ∀ q : Nat, φ q → WS p la e R s m args below meth c Q D cA B0 nL (pc + 1) l (.ref q :: r) h k n) : WS p la e R s m args below meth c Q D cA B0 nL pc l (.int j :: .ref a :: r) h k n := by
  obtain ⟨i, hi, rfl⟩ := hj
  exact aldr_ok X hkd hd ha (by omega) (q := as[i]'(by omega)) (by simp) (kk _ (ht _ (List.getElem_mem _)))
end TY2
theorem px_ix {x : Int32} (h1 : ¬ x < (Int8.ofInt 10).toInt32) (h2 : ¬ (Int8.ofInt 10).toInt32 + 8 ≤ x) : ∃ j, j < 8 ∧ x - (Int8.ofInt 10).toInt32 = nI j := by
  rw [nI_10] at h1 h2 ⊢
  have h3 : ¬ nI 18 ≤ x := h2
  have h0 : ¬ x < 0 := fun z => h1 (Int32.lt_trans z (by decide +kernel))
  obtain ⟨i, hi, rfl⟩ := nI_of h0
  have a1 : 10 ≤ i := by
    rcases Nat.lt_or_ge i 10 with q | q
    · exact absurd ((nI_ltI (by omega) (by omega)).mpr q) h1
    · exact q
  have a2 := nI_lt' hi (by decide) h3
  exact ⟨i - 10, by omega, nI_sub a1⟩
theorem parts_le : ∀ j, j < 8 → ∃ n : Nat, n ≤ 3 ∧ partsF j = vI n
  | 0, _ => ⟨0, by decide, rfl⟩
  | 1, _ => ⟨0, by decide, rfl⟩
  | 2, _ => ⟨1, by decide, rfl⟩
  | 3, _ => ⟨1, by decide, rfl⟩
  | 4, _ => ⟨2, by decide, rfl⟩
  | 5, _ => ⟨2, by decide, rfl⟩
  | 6, _ => ⟨3, by decide, rfl⟩
  | 7, _ => ⟨3, by decide, rfl⟩
  | j + 8, h => by omega
section M87
variable {la : Launch} {D : va_G} {cA : Nat → ClassId} {B0 pa : Nat} {Γ : TY}
set_option maxRecDepth 100000 in
theorem gsX6_319 : Cond.fieldLink RX6 319 RX6 "PARTS" "[I" ∈ WT := WT_of (tbw_2 (List.mem_of_getElem? (i := 48) rfl)) rfl
theorem c6_partsOf (h : AH) (I : Tyg Γ h) (x0 : Int32) : CT la D cA B0 pa yX6_partsOf cX6_partsOf 1 (some .int) (rmD 0 0 0) [.int x0] h (RdO (nP 3) h) := by
  refine CT_of (by decide +kernel) (Nat.le_of_ble_eq_true rfl) ?_
  intro p e s m args below meth c X E hr hlk hnm
  have dk : ∀ {pc : Nat} {q : Instr × Nat}, lkd DX6_partsOf pc = some q → decode cX6_partsOf pc = .ok q := lkd_ok DX6_partsOf_ok
  have no' : ∀ (l : List (Nat × Value)), WR p la e (rmD 0 0 0) s m args below meth c D cA B0 1 (RdO (nP 3) h) 28 l [] h 0 0 := by
    intro l
    refine fst1_ok (l' := l) (st' := [.int (Int32.ofInt 0)]) X (dk rfl) rfl ?_
    exact reti_ok X hr hlk rfl (dk rfl) ⟨⟨0, Nat.zero_le _, by rw [nI_0']; rfl⟩, rfl⟩ (Nat.le_refl _) (Nat.le_refl _)
  iterate 2 refine fst1_ok X (dk rfl) rfl ?_
  refine br_ok X (dk rfl) rfl (show ((3 : Nat) : Int) + 25 = ((28 : Nat) : Int) from rfl) (fun _ => no' _) (fun c1 => ?_)
  iterate 2 refine fst1_ok X (dk rfl) rfl ?_
  refine gets_ok X E gsX6_319 (dk rfl) ?_
  refine plen_ok X E (dk rfl) ?_
  refine fst1_ok X (dk rfl) rfl ?_
  refine br_ok X (dk rfl) rfl (show ((14 : Nat) : Int) + 14 = ((28 : Nat) : Int) from rfl) (fun _ => no' _) (fun c2 => ?_)
  refine gets_ok X E gsX6_319 (dk rfl) ?_
  iterate 3 refine fst1_ok X (dk rfl) rfl ?_
  obtain ⟨j, hj, ej⟩ := px_ix c1 c2
  rw [ej]
  obtain ⟨n, hn, en⟩ := parts_le j hj
  refine ptab_ok X E (vp_in_nI hj (by decide)) (dk rfl) ?_
  rw [nI_clamp (by omega), en]
  refine br_ok X (dk rfl) rfl (show ((25 : Nat) : Int) + 4 = ((29 : Nat) : Int) from rfl) (fun _ => ?_) (fun q => absurd trivial q)
  exact reti_ok X hr hlk rfl (dk rfl) ⟨⟨n, hn, rfl⟩, rfl⟩ (Nat.le_refl _) (Nat.le_refl _)
end M87
theorem inN_lt {x : Int32} {N : Nat} (h : inN N x) (hN : N ≤ 2 ^ 20) : x < nI N := by
  obtain ⟨j, hj, rfl⟩ := h
  exact (nI_ltI (by omega) (by omega)).mpr hj
theorem natx_lt {x : Int32} {i : Nat} (hi : i < 2 ^ 31) (c : ¬ x ≤ nI i) : i < x.toInt.toNat := by
  have h1 := Int32.lt_iff_toInt_lt.mp (Int32.not_le.mp c)
  have e : (nI i).toInt = (i : Int) := by
    show (Int32.ofNat i).toInt = _
    exact Int32.toInt_ofNat_of_lt (by omega)
  omega
section MX
variable {p : Program} {la : Launch} {e : Env} {R : Room} {s : State} {m : MethodId} {args : Array Value} {below : List Frame} {meth : Method} {c : Code} {Q : State → Prop}
variable {D : va_G} {cA : Nat → ClassId} {B0 pa nL : Nat} {cc : ByteArray} {own : String} {pc k n : Nat} {l : List (Nat × Value)} {r : List Value} {h h0 : AH} {Γ : TY}
theorem mmaxi_ok (X : CX p s m args c D cA B0 nL cc own) {idx : Nat} {x y : Int32} (hl : Cond.methodLink own idx yJ9_max_7cf53 ∈ WT) (hd : decode cc pc = .ok (.invokestatic idx, 3)) (hfr : 1 ≤ R.frames) (hlo : (r.map fun v => v.category).sum + 13 ≤ R.locals) (h1 : k ≤ R.cells) (h2 : n ≤ R.slots)
    (kk : ∀ z : Int32, WS p la e R s m args below meth c Q D cA B0 nL (pc + 3) l (.int z :: r) h k n) : WS p la e R s m args below meth c Q D cA B0 nL pc l (.int y :: .int x :: r) h k n := by
  intro H locs ls hH hls
  exact va_mmax X.1 X.2.1 (X.2.2.1.trans hls.1.symm) X.2.2.2.1 (X.2.2.2.2.1 _ hl) (X.2.2.2.2.1 _ lsJ9_max_7cf53) (X.2.2.2.2.1 _ liJ9) (X.2.2.2.2.1 _ lcJ9_max_7cf53) hfr hlo h1 h2 hd (kk _ H locs ls hH hls)
end MX
