/-! more of the reference's small methods -/
section LDC
variable {p : Program} {la : Launch} {e : Env} {R : Room} {s : State} {m : MethodId} {args : Array Value} {below : List Frame} {meth : Method} {c : Code} {Q : State → Prop}
variable {D : va_G} {cA : Nat → ClassId} {B0 pa nL : Nat} {cc : ByteArray} {own : String} {pc k n : Nat} {l : List (Nat × Value)} {r : List Value} {h : AH}
theorem ldcw_ok (X : CX p s m args c D cA B0 nL cc own) {idx : Nat} {v : Int32} (hc : Cond.constant own idx v ∈ WT) (hd : decode cc pc = .ok (.ldc_w idx, 3))
    (kk : WS p la e R s m args below meth c Q D cA B0 nL (pc + 3) l (.int v :: r) h k n) : WS p la e R s m args below meth c Q D cA B0 nL pc l r h k n :=
  fun H locs ls hH hls => lv_ldcw X.1 X.2.1 X.2.2.2.1 (X.2.2.2.2.1 _ hc) hd (kk H locs ls hH hls)
theorem ldc_ok (X : CX p s m args c D cA B0 nL cc own) {idx : Nat} {v : Int32} (hc : Cond.constant own idx v ∈ WT) (hd : decode cc pc = .ok (.ldc idx, 2))
    (kk : WS p la e R s m args below meth c Q D cA B0 nL (pc + 2) l (.int v :: r) h k n) : WS p la e R s m args below meth c Q D cA B0 nL pc l r h k n :=
  fun H locs ls hH hls => lv_ldc X.1 X.2.1 X.2.2.2.1 (X.2.2.2.2.1 _ hc) hd (kk H locs ls hH hls)
theorem ldc2_ok (X : CX p s m args c D cA B0 nL cc own) {idx : Nat} {v : Int64} (hc : Cond.constantLong own idx v ∈ WT) (hd : decode cc pc = .ok (.ldc2_w idx, 3))
    (kk : WS p la e R s m args below meth c Q D cA B0 nL (pc + 3) l (.long v :: r) h k n) : WS p la e R s m args below meth c Q D cA B0 nL pc l r h k n :=
  fun H locs ls hH hls => lv_ldc2 X.1 X.2.1 X.2.2.2.1 (X.2.2.2.2.1 _ hc) hd (kk H locs ls hH hls)
end LDC
/-- the machine's own count of ones -/
def bcF (x : Int32) : Int32 :=
  let a := x - ((x.toUInt32 >>> ((Int32.ofInt 1).toUInt32 &&& Int32.toUInt32 31)).toInt32 &&& 1431655765)
  let b := (a &&& 858993459) + ((a.toUInt32 >>> ((Int32.ofInt 2).toUInt32 &&& Int32.toUInt32 31)).toInt32 &&& 858993459)
  let d := (b + (b.toUInt32 >>> ((Int32.ofInt 4).toUInt32 &&& Int32.toUInt32 31)).toInt32) &&& 252645135
  let f := d + (d.toUInt32 >>> ((Int8.ofInt 8).toInt32.toUInt32 &&& Int32.toUInt32 31)).toInt32
  let g := f + (f.toUInt32 >>> ((Int8.ofInt 16).toInt32.toUInt32 &&& Int32.toUInt32 31)).toInt32
  g &&& (Int8.ofInt 63).toInt32
section M4
variable {la : Launch} {D : va_G} {cA : Nat → ClassId} {B0 pa : Nat}
set_option maxHeartbeats 4000000 in
theorem c_bitCount (h : AH) (x : Int32) : CT la D cA B0 pa yJ6_bitCount_0f7a4 cJ6_bitCount_0f7a4 1 (some .int) (rmD 0 0 0) [.int x] h (fun v h' => v = some (.int (bcF x)) ∧ h' = h) := by
  refine CT_of (by decide +kernel) (Nat.le_of_ble_eq_true rfl) ?_
  intro p e s m args below meth c X E hr hlk hnm
  have dk : ∀ {pc : Nat} {q : Instr × Nat}, lkd DJ6_bitCount_0f7a4 pc = some q → decode cJ6_bitCount_0f7a4 pc = .ok q := lkd_ok DJ6_bitCount_0f7a4_ok
  repeat refine fst1_ok X (dk rfl) rfl ?_
  refine ldcw_ok X lcI_265 (dk rfl) ?_
  repeat refine fst1_ok X (dk rfl) rfl ?_
  refine ldcw_ok X lcI_266 (dk rfl) ?_
  repeat refine fst1_ok X (dk rfl) rfl ?_
  refine ldcw_ok X lcI_266 (dk rfl) ?_
  repeat refine fst1_ok X (dk rfl) rfl ?_
  refine ldcw_ok X lcI_267 (dk rfl) ?_
  repeat refine fst1_ok X (dk rfl) rfl ?_
  exact reti_ok X hr hlk rfl (dk rfl) ⟨rfl, rfl⟩ (Nat.le_refl _) (Nat.le_refl _)
theorem endL_le : ∀ {ys : List Nat} {n k : Nat}, endL n ys = some k → k ≤ ys.length
  | ys, 0, k, h => by simp [endL] at h; omega
  | [], n + 1, k, h => by simp [endL] at h
  | x :: r, n + 1, k, h => by
    simp only [endL, Option.map_eq_some_iff] at h
    obtain ⟨j, hj, rfl⟩ := h
    have := endL_le hj
    simp; omega
set_option maxHeartbeats 4000000 in
theorem c_at (h : AH) {a at' k : Nat} {xs : List Nat} (ha : h a = some (IA xs)) (hx : ∀ x ∈ xs, x < 2 ^ 10) (hn : xs.length < 2 ^ 9) (hk : endL 1 (xs.drop at') = some k) : CT la D cA B0 pa yX10_at cX10_at 2 (some (.array .int)) (rmD 2 1 k) [.ref a, vI at'] h (newA B0 h ((xs.drop at').take k)) := by
  refine CT_of (by decide +kernel) (Nat.le_of_ble_eq_true rfl) ?_
  intro p e s m args below meth c X E hr hlk hnm
  have dk : ∀ {pc : Nat} {q : Instr × Nat}, lkd DX10_at pc = some q → decode cX10_at pc = .ok q := lkd_ok DX10_at_ok
  have hle := endL_le hk
  have hat : at' < xs.length := by
    rcases Nat.lt_or_ge at' xs.length with q | q
    · exact q
    · rw [List.drop_eq_nil_of_le q] at hk; simp [endL] at hk
  rw [List.length_drop] at hle
  repeat refine fst1_ok X (dk rfl) rfl ?_
  refine callS_ok (av := [.ref a, vI at']) (r := [vI at', .ref a]) X E (c_end h ha hx (by omega) hk) lkX10_end mlX10_36 lsX10_end ⟨Nat.le_of_ble_eq_true rfl, Nat.le_of_ble_eq_true rfl⟩ ⟨Nat.le_of_ble_eq_true rfl, by show 0 + 0 ≤ k; omega⟩ (Nat.le_of_ble_eq_true rfl) (dk rfl) ?_
  rintro v h' ⟨rfl, rfl⟩
  refine callS_ok (rm := rmD 0 1 (at' + k - at')) (av := [.ref a, vI at', vI (at' + k)]) (r := []) X E (c_piece h' ha (Nat.le_add_right _ _) (by omega) hn (by rw [Nat.add_sub_cancel_left])) lkX10_piece mlX10_40 lsX10_piece ⟨Nat.le_of_ble_eq_true rfl, Nat.le_of_ble_eq_true rfl⟩ ⟨Nat.le_of_ble_eq_true rfl, by show 0 + 0 + (at' + k - at') ≤ k; omega⟩ (Nat.le_of_ble_eq_true rfl) (dk rfl) ?_
  rintro v h2 ⟨q, rfl, hq, hB, rfl⟩
  exact reta_ok X hr hlk (Or.inr ⟨_, rfl⟩) (Or.inr ⟨_, rfl⟩) (dk rfl) ⟨q, rfl, hq, hB, rfl⟩ (Nat.le_refl _) (by show 0 + 0 + (at' + k - at') ≤ k; omega)
end M4
