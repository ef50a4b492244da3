/-! what is told of a term in the end: whole, answer -/
/-- what stands for the letter at a place -/
def stAt (sm : SM) (xs : List Nat) (at' : Nat) : Option (List Nat) := if xs.getD at' 10 < 10 then sm.getD (xs.getD at' 10) none else none
/-- the row in the end, cells, slots -/
def whF : Nat → SM → List Nat → Nat → Option (List Nat × Nat × Nat)
  | 0, _, _, _ => none
  | f + 1, sm, xs, at' => if at' < xs.length ∧ xs.length ≤ 16 then (match stAt sm xs at' with
      | some t => (match whF f sm (xs.take at' ++ t ++ xs.drop (at' + 1)) at' with
        | some (r, c, n) => some (r, 4 + c, 80 + n)
        | none => none)
      | none => whF f sm xs (at' + 1)) else some (xs, 0, 0)
def whP (h : AH) (r : List Nat) (v : Option Value) (h' : AH) : Prop := Ext h h' ∧ ((16 < r.length ∧ v = some .null) ∨ (r.length ≤ 16 ∧ TW r ∧ ∃ q, v = some (.ref q) ∧ h' q = some (IA r)))
section M54
variable {la : Launch} {D : va_G} {cA : Nat → ClassId} {B0 pa : Nat} {o9 St : Nat} {sm : SM} {mm ww : Nat}
set_option maxHeartbeats 16000000 in
theorem c_whole (h : AH) (M : SI h o9 St sm mm ww) {u f C N : Nat} {xs r : List Nat} (hu : h u = some (IA xs)) (hx : TW xs ∧ xs.length ≤ 32) (hf : whF f sm xs 0 = some (r, C, N)) : CT la D cA B0 pa yX9_whole cX9_whole 4 (some (.array .int)) (rmD 1 C N) [.ref o9, .ref u] h (whP h r) := by
  refine CT_of (by decide +kernel) (Nat.le_of_ble_eq_true rfl) ?_
  intro p e s m args below meth c X E hr hlk hnm
  have dk : ∀ {pc : Nat} {q : Instr × Nat}, lkd DX9_whole pc = some q → decode cX9_whole pc = .ok q := lkd_ok DX9_whole_ok
  have loop : ∀ (f : Nat) (xs : List Nat) (at' u : Nat) (cz nz : Nat) (hh : AH) (k0 n0 : Nat) (l : List (Nat × Value)), lsel l [3, 2, 0] = [(3, vI at'), (2, .ref u), (0, .ref o9)] → at' ≤ xs.length → hh u = some (IA xs) → TW xs ∧ xs.length ≤ 32 → Ext h hh → whF f sm xs at' = some (r, cz, nz) → k0 + cz = C → n0 + nz = N →
      WR p la e (rmD 1 C N) s m args below meth c D cA B0 4 (whP h r) 4 l [] hh k0 n0 := by
    intro f
    induction f with
    | zero => intro xs at' u cz nz hh k0 n0 l hl ha hu hx XX hf hk hn; simp [whF] at hf
    | succ f ih =>
      intro xs at' u cz nz hh k0 n0 l hl ha hu hx XX hf hk hn
      have lx : (xs.map vI).length = xs.length := List.length_map _
      unfold whF at hf
      have fin9 : r = xs → k0 ≤ C → n0 ≤ N → ∀ l : List (Nat × Value), lsel l [2] = [(2, .ref u)] → WR p la e (rmD 1 C N) s m args below meth c D cA B0 4 (whP h r) 75 l [] hh k0 n0 := by
        intro hrx hkC hnN l hl
        subst hrx
        refine WS.sel [2] hl ?_
        refine fst1_ok X (dk rfl) rfl ?_
        refine alen_ok X (by decide) (dk rfl) hu ?_
        rw [lx]
        refine fst1_ok X (dk rfl) rfl ?_
        refine br_ok X (dk rfl) rfl (show ((79 : Nat) : Int) + 7 = ((86 : Nat) : Int) from rfl) (fun c1 => ?_) (fun c1 => ?_)
        · rw [nI_16] at c1
          have h16 : r.length ≤ 16 := (nI_leI (by omega) (by omega)).mp c1
          repeat refine fst1_ok X (dk rfl) rfl ?_
          exact reta_ok X hr hlk (Or.inr ⟨_, rfl⟩) (Or.inr ⟨_, rfl⟩) (dk rfl) ⟨XX, Or.inr ⟨h16, hx.1, u, rfl, hu⟩⟩ hkC hnN
        · rw [nI_16] at c1
          have h16 : 16 < r.length := nI_lt' (by omega) (by omega) c1
          refine fst1_ok X (dk rfl) rfl ?_
          refine br_ok X (dk rfl) rfl (show ((83 : Nat) : Int) + 4 = ((87 : Nat) : Int) from rfl) (fun _ => ?_) (fun q => absurd trivial q)
          exact reta_ok X hr hlk (Or.inr ⟨_, rfl⟩) (Or.inl rfl) (dk rfl) ⟨XX, Or.inl ⟨h16, rfl⟩⟩ hkC hnN
      refine WS.sel [3, 2, 0] hl ?_
      repeat refine fst1_ok X (dk rfl) rfl ?_
      refine alen_ok X (by decide) (dk rfl) hu ?_
      rw [lx]
      refine br_ok X (dk rfl) rfl (show ((7 : Nat) : Int) + 68 = ((75 : Nat) : Int) from rfl) (fun c1 => ?_) (fun c1 => ?_)
      · have hge : xs.length ≤ at' := nI_ge' (by omega) (by omega) c1
        rw [if_neg (by omega)] at hf
        simp only [Option.some.injEq, Prod.mk.injEq] at hf
        obtain ⟨rfl, rfl, rfl⟩ := hf
        exact fin9 rfl (by omega) (by omega) _ rfl
      · have hlt : at' < xs.length := nI_lt' (by omega) (by omega) c1
        refine fst1_ok X (dk rfl) rfl ?_
        refine alen_ok X (by decide) (dk rfl) hu ?_
        rw [lx]
        refine fst1_ok X (dk rfl) rfl ?_
        refine br_ok X (dk rfl) rfl (show ((14 : Nat) : Int) + 61 = ((75 : Nat) : Int) from rfl) (fun c2 => ?_) (fun c2 => ?_)
        · rw [nI_16] at c2
          have hgt : 16 < xs.length := (nI_ltI (by omega) (by omega)).mp c2
          rw [if_neg (by omega)] at hf
          simp only [Option.some.injEq, Prod.mk.injEq] at hf
          obtain ⟨rfl, rfl, rfl⟩ := hf
          exact fin9 rfl (by omega) (by omega) _ rfl
        · rw [nI_16] at c2
          have hle : xs.length ≤ 16 := by
            rcases Nat.lt_or_ge 16 xs.length with q | q
            · exact absurd ((nI_ltI (by omega) (by omega)).mpr q) c2
            · exact q
          rw [if_pos ⟨hlt, hle⟩] at hf
          obtain ⟨x, hx0⟩ : ∃ x, xs[at']? = some x := ⟨xs[at']'hlt, by simp⟩
          have hxo := hx.1.2 x (List.mem_of_getElem? hx0)
          have hx18 := hxo.lt
          have hxd : xs.getD at' 10 = x := by rw [List.getD_eq_getElem?_getD, hx0]; rfl
          have M1 := M.ext XX
          unfold stAt at hf
          rw [hxd] at hf
          have next9 : whF f sm xs (at' + 1) = some (r, cz, nz) → ∀ l : List (Nat × Value), lsel l [3, 2, 0] = [(3, vI at'), (2, .ref u), (0, .ref o9)] → WR p la e (rmD 1 C N) s m args below meth c D cA B0 4 (whP h r) 69 l [] hh k0 n0 := by
            intro hf l hl
            refine WS.sel [3, 2, 0] hl ?_
            repeat refine fst1_ok X (dk rfl) rfl ?_
            refine br_ok X (dk rfl) rfl (show ((72 : Nat) : Int) + (-68) = ((4 : Nat) : Int) from rfl) (fun _ => ?_) (fun q => absurd trivial q)
            have f2 : Value.int (nI at' + Int32.ofInt 1) = vI (at' + 1) := congrArg Value.int (by rw [nI_1', nI_add])
            refine WS.sel (l' := [(3, vI (at' + 1)), (2, .ref u), (0, .ref o9)]) [3, 2, 0] (by rw [← f2]; rfl) ?_
            exact ih xs (at' + 1) u cz nz hh k0 n0 _ rfl (by omega) hu hx XX hf hk hn
          repeat refine fst1_ok X (dk rfl) rfl ?_
          refine ald_ok X (Or.inl ⟨rfl, rfl⟩) (dk rfl) hu (inA_nI (by omega) (IA_get hx0)) ?_
          refine fst1_ok X (dk rfl) rfl ?_
          refine br_ok X (dk rfl) rfl (show ((22 : Nat) : Int) + 47 = ((69 : Nat) : Int) from rfl) (fun c3 => ?_) (fun c3 => ?_)
          · rw [nI_10] at c3
            have hx10 : 10 ≤ x := nI_ge' (by omega) (by omega) c3
            rw [if_neg (by omega)] at hf
            exact next9 hf _ rfl
          · rw [nI_10] at c3
            have hx10 : x < 10 := nI_lt' (by omega) (by omega) c3
            have hx8 : x < 8 := by rcases hxo with q | q <;> omega
            rw [if_pos hx10] at hf
            obtain ⟨os, ov, t1, t2, t3, t4⟩ := M1.2.1.get hx8
            refine fst1_ok X (dk rfl) rfl ?_
            refine getf_ok X flX9_11 (dk rfl) M1.1 rfl ?_
            repeat refine fst1_ok X (dk rfl) rfl ?_
            refine ald_ok X (Or.inl ⟨rfl, rfl⟩) (dk rfl) hu (inA_nI (by omega) (IA_get hx0)) ?_
            refine ald_ok X (Or.inr (Or.inr ⟨rfl, by decide⟩)) (dk rfl) t1 (inA_nI (v := va_rf ov) (by omega) (by rw [List.getElem?_map, t3]; rfl)) ?_
            rcases t4 with ⟨rfl, e1⟩ | ⟨b, t', rfl, e1, e2⟩
            · rw [e1] at hf
              refine br_ok X (dk rfl) rfl (show ((33 : Nat) : Int) + 36 = ((69 : Nat) : Int) from rfl) (fun _ => ?_) (fun c3 => absurd trivial c3)
              exact next9 hf _ rfl
            · rw [e1] at hf
              dsimp only at hf
              have tt := M.2.2.1.get e1
              cases hg : whF f sm (xs.take at' ++ t' ++ xs.drop (at' + 1)) at' with
              | none => rw [hg] at hf; cases hf
              | some g =>
              obtain ⟨r2, c2, n2⟩ := g
              rw [hg] at hf
              simp only [Option.some.injEq, Prod.mk.injEq] at hf
              obtain ⟨rfl, e4, e5⟩ := hf
              have hend : endL 1 (xs.drop at') = some 1 := by
                rw [drop_cons hx0]
                have hp : pF x = 0 := by unfold pF; rw [if_pos hx10]
                simp [endL, hp]
              have tg := hx.1.graft tt.1 hlt hend
              refine br_ok X (dk rfl) rfl (show ((33 : Nat) : Int) + 36 = ((69 : Nat) : Int) from rfl) (fun c3 => absurd c3 (fun z => z)) (fun _ => ?_)
              repeat refine fst1_ok X (dk rfl) rfl ?_
              refine callSN_ok (av := [.ref u, vI 0, vI at']) (r := []) X E (c_piece hh (f := 0) (t := at') hu (Nat.zero_le _) (by omega) (by omega) rfl) lkX10_piece mnX9_65 lsX10_piece ⟨Nat.le_of_ble_eq_true rfl, Nat.le_of_ble_eq_true rfl⟩ ⟨by show k0 + 1 ≤ C; omega, by show n0 + (at' - 0) ≤ N; omega⟩ (Nat.le_of_ble_eq_true rfl) (dk rfl) ?_
              rintro v h2 ⟨q1, rfl, hq1, hB1, rfl⟩
              have X1 := Ext.new hq1 (IA ((xs.drop 0).take (at' - 0)))
              have l1 : ((xs.drop 0).take (at' - 0)).length = at' := by rw [List.length_take, List.drop_zero]; omega
              refine WS.widen (k' := k0 + 1) (n' := n0 + at') (Nat.le_refl _) (by show n0 + (at' - 0) ≤ n0 + at'; omega) ?_
              refine fst1_ok X (dk rfl) rfl ?_
              refine getf_ok X flX9_11 (dk rfl) (X1 _ _ M1.1) rfl ?_
              repeat refine fst1_ok X (dk rfl) rfl ?_
              refine ald_ok X (Or.inl ⟨rfl, rfl⟩) (dk rfl) (X1 _ _ hu) (inA_nI (by omega) (IA_get hx0)) ?_
              refine ald_ok X (Or.inr (Or.inr ⟨rfl, by decide⟩)) (dk rfl) (X1 _ _ t1) (inA_nI (v := .ref b) (by omega) (by rw [List.getElem?_map, t3]; rfl)) ?_
              refine callSN_ok (av := [.ref q1, .ref b]) (r := []) X E (c_joined _ (hup_self _ _ _) (X1 _ _ e2) (by rw [l1]; omega) (by omega)) lkX10_joined mnX9_69 lsX10_joined ⟨Nat.le_of_ble_eq_true rfl, Nat.le_of_ble_eq_true rfl⟩ ⟨by show k0 + 1 + 1 ≤ C; omega, by show n0 + at' + (((xs.drop 0).take (at' - 0)).length + t'.length) ≤ N; rw [l1]; omega⟩ (Nat.le_of_ble_eq_true rfl) (dk rfl) ?_
              rintro v h3 ⟨q2, rfl, hq2, hB2, rfl⟩
              have X2 := X1.trans (Ext.new hq2 (IA ((xs.drop 0).take (at' - 0) ++ t')))
              have l2 : ((xs.drop 0).take (at' - 0) ++ t').length = at' + t'.length := by rw [List.length_append, l1]
              refine WS.widen (k' := k0 + 2) (n' := n0 + at' + (at' + t'.length)) (Nat.le_refl _) (by show n0 + at' + (((xs.drop 0).take (at' - 0)).length + t'.length) ≤ n0 + at' + (at' + t'.length); rw [l1]; omega) ?_
              repeat refine fst1_ok X (dk rfl) rfl ?_
              refine alen_ok X (by decide) (dk rfl) (X2 _ _ hu) ?_
              rw [lx, nI_1', nI_add]
              refine callSN_ok (av := [.ref u, vI (at' + 1), vI xs.length]) (r := [.ref q2]) X E (c_piece _ (X2 _ _ hu) (by omega) (Nat.le_refl _) (by omega) rfl) lkX10_piece mnX9_65 lsX10_piece ⟨Nat.le_of_ble_eq_true rfl, Nat.le_of_ble_eq_true rfl⟩ ⟨by show k0 + 2 + 1 ≤ C; omega, by show n0 + at' + (at' + t'.length) + (xs.length - (at' + 1)) ≤ N; omega⟩ (Nat.le_of_ble_eq_true rfl) (dk rfl) ?_
              rintro v h4 ⟨q3, rfl, hq3, hB3, rfl⟩
              have X3 := X2.trans (Ext.new hq3 (IA ((xs.drop (at' + 1)).take (xs.length - (at' + 1)))))
              have l3 : ((xs.drop (at' + 1)).take (xs.length - (at' + 1))).length = xs.length - (at' + 1) := by rw [List.length_take, List.length_drop]; omega
              refine WS.widen (k' := k0 + 3) (n' := n0 + at' + (at' + t'.length) + (xs.length - (at' + 1))) (Nat.le_refl _) (Nat.le_refl _) ?_
              refine callSN_ok (av := [.ref q2, .ref q3]) (r := []) X E (c_joined _ (Ext.new hq3 _ _ _ (hup_self _ _ _)) (hup_self _ _ _) (by rw [l2]; omega) (by rw [l3]; omega)) lkX10_joined mnX9_69 lsX10_joined ⟨Nat.le_of_ble_eq_true rfl, Nat.le_of_ble_eq_true rfl⟩ ⟨by show k0 + 3 + 1 ≤ C; omega, by show n0 + at' + (at' + t'.length) + (xs.length - (at' + 1)) + (((xs.drop 0).take (at' - 0) ++ t').length + ((xs.drop (at' + 1)).take (xs.length - (at' + 1))).length) ≤ N; rw [l2, l3]; omega⟩ (Nat.le_of_ble_eq_true rfl) (dk rfl) ?_
              rintro v h5 ⟨q4, rfl, hq4, hB4, rfl⟩
              have e8 : (xs.drop (at' + 1)).take (xs.length - (at' + 1)) = xs.drop (at' + 1) := List.take_of_length_le (by rw [List.length_drop]; omega)
              have e9 : ((xs.drop 0).take (at' - 0) ++ t') ++ (xs.drop (at' + 1)).take (xs.length - (at' + 1)) = (xs.take at' ++ t') ++ xs.drop (at' + 1) := by rw [e8, List.drop_zero, Nat.sub_zero]
              have X4 := X3.trans (Ext.new hq4 (IA (((xs.drop 0).take (at' - 0) ++ t') ++ (xs.drop (at' + 1)).take (xs.length - (at' + 1)))))
              have hq4s := hup_self (hup (hup (hup hh q1 (IA ((xs.drop 0).take (at' - 0)))) q2 (IA ((xs.drop 0).take (at' - 0) ++ t'))) q3 (IA ((xs.drop (at' + 1)).take (xs.length - (at' + 1))))) q4 (IA (((xs.drop 0).take (at' - 0) ++ t') ++ (xs.drop (at' + 1)).take (xs.length - (at' + 1))))
              rw [e9] at hq4s
              refine WS.widen (k' := k0 + 4) (n' := n0 + 80) (Nat.le_refl _) (by show n0 + at' + (at' + t'.length) + (xs.length - (at' + 1)) + (((xs.drop 0).take (at' - 0) ++ t').length + ((xs.drop (at' + 1)).take (xs.length - (at' + 1))).length) ≤ n0 + 80; rw [l2, l3]; omega) ?_
              rw [e9] at X4 ⊢
              have lg : (xs.take at' ++ t' ++ xs.drop (at' + 1)).length = at' + t'.length + (xs.length - (at' + 1)) := by rw [List.length_append, List.length_append, List.length_take, List.length_drop, Nat.min_eq_left (by omega)]
              have tp := tt.1.pos
              refine fst1_ok X (dk rfl) rfl ?_
              refine br_ok X (dk rfl) rfl (show ((66 : Nat) : Int) + (-62) = ((4 : Nat) : Int) from rfl) (fun _ => ?_) (fun q => absurd trivial q)
              exact ih _ at' q4 c2 n2 _ (k0 + 4) (n0 + 80) _ rfl (by rw [lg]; omega) hq4s ⟨tg, by rw [lg]; omega⟩ (XX.trans X4) hg (by omega) (by omega)
  iterate 4 refine fst1_ok X (dk rfl) rfl ?_
  exact loop f xs 0 u C N h 0 0 _ rfl (Nat.zero_le _) hu hx (Ext.rf h) hf (Nat.zero_add _) (Nat.zero_add _)
end M54
