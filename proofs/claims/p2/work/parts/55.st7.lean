/-! answer: what is told of all names in the end -/
section M55
variable {la : Launch} {D : va_G} {cA : Nat → ClassId} {B0 pa : Nat} {o9 St : Nat} {sm : SM} {mm ww : Nat}
/-- null, or eight new rows -/
def ansP (B0 : Nat) (h : AH) (v : Option Value) (h' : AH) : Prop := (v = some .null ∧ Ext h h') ∨ ∃ rows, AO rows ∧ newR B0 h rows v h'
set_option maxHeartbeats 16000000 in
theorem c_stAnswer (h : AH) (M : SI h o9 St sm mm ww) {f C N : Nat} (HW : ∀ k, k < 8 → ∃ r c n, whF f sm [k] 0 = some (r, c, n) ∧ c ≤ C ∧ n ≤ N) : CT la D cA B0 pa yX9_answer cX9_answer 3 (some (.array (.array .int))) (rmD 2 (1 + 8 * (1 + C)) (8 + 8 * (1 + N))) [.ref o9] h (ansP B0 h) := by
  refine CT_of (by decide +kernel) (Nat.le_of_ble_eq_true rfl) ?_
  intro p e s m args below meth c X E hr hlk hnm
  have dk : ∀ {pc : Nat} {q : Instr × Nat}, lkd DX9_answer pc = some q → decode cX9_answer pc = .ok q := lkd_ok DX9_answer_ok
  refine fst1_ok X (dk rfl) rfl ?_
  refine newR_ok (N := 8) (kd := 105) X E (by decide) cl9_9 (by decide) (dk rfl) (by show 0 + 1 ≤ 1 + 8 * (1 + C); omega) (by show 0 + 8 ≤ 8 + 8 * (1 + N); omega) (fun T hT hBT => ?_)
  have loop : ∀ (d i : Nat), d = 8 - i → i ≤ 8 → ∀ (hh : AH) (as : List Nat) (rows : List (List Nat)) (l : List (Nat × Value)), lsel l [2, 1, 0] = [(2, vI i), (1, .ref T), (0, .ref o9)] → as.length = i → rows.length = i → hh T = some (105, filR as 8) → (∀ (k b : Nat) (r : List Nat), as[k]? = some b → rows[k]? = some r → hh b = some (IA r)) → (∀ r ∈ rows, TW r ∧ r.length ≤ 16) → Ext h hh →
      WR p la e (rmD 2 (1 + 8 * (1 + C)) (8 + 8 * (1 + N))) s m args below meth c D cA B0 3 (ansP B0 h) 8 l [] hh (1 + i * (1 + C)) (8 + i * (1 + N)) := by
    intro d
    induction d with
    | zero =>
      intro i hd hi hh as rows l hl ha hrl hTh has hro XX
      have hi2 : i = 8 := by omega
      subst hi2
      refine WS.sel [2, 1, 0] hl ?_
      repeat refine fst1_ok X (dk rfl) rfl ?_
      refine br_ok X (dk rfl) rfl (show ((11 : Nat) : Int) + 28 = ((39 : Nat) : Int) from rfl) (fun _ => ?_) (fun c1 => absurd (by decide) c1)
      refine fst1_ok X (dk rfl) rfl ?_
      exact reta_ok X hr hlk (Or.inr ⟨_, rfl⟩) (Or.inr ⟨_, rfl⟩) (dk rfl) (Or.inr ⟨rows, ⟨hrl, hro⟩, T, rfl, hT, hBT, XX, as, by omega, by rw [hTh, ← ha, filR_end], has⟩) (Nat.le_refl _) (Nat.le_refl _)
    | succ d ih =>
      intro i hd hi hh as rows l hl ha hrl hTh has hro XX
      obtain ⟨r, c1, n1, hw, hc, hn⟩ := HW i (by omega)
      have f2 : Value.int (nI i + Int32.ofInt 1) = vI (i + 1) := congrArg Value.int (by rw [nI_1', nI_add])
      have q1 : 1 + i * (1 + C) + (1 + C) ≤ 1 + 8 * (1 + C) := by
        have := Nat.mul_le_mul_right (1 + C) (show i + 1 ≤ 8 by omega)
        rw [Nat.add_mul, Nat.one_mul] at this
        omega
      have q2 : 8 + i * (1 + N) + (1 + N) ≤ 8 + 8 * (1 + N) := by
        have := Nat.mul_le_mul_right (1 + N) (show i + 1 ≤ 8 by omega)
        rw [Nat.add_mul, Nat.one_mul] at this
        omega
      have q3 : 1 + i * (1 + C) + (1 + C) = 1 + (i + 1) * (1 + C) := by rw [Nat.add_mul i 1, Nat.one_mul, Nat.add_assoc]
      have q4 : 8 + i * (1 + N) + (1 + N) = 8 + (i + 1) * (1 + N) := by rw [Nat.add_mul i 1, Nat.one_mul, Nat.add_assoc]
      refine WS.sel [2, 1, 0] hl ?_
      repeat refine fst1_ok X (dk rfl) rfl ?_
      refine br_ok X (dk rfl) rfl (show ((11 : Nat) : Int) + 28 = ((39 : Nat) : Int) from rfl) (fun c1 => absurd c1 (nI_ge (a := i) (b := 8) (by omega) (by omega))) (fun _ => ?_)
      repeat refine fst1_ok X (dk rfl) rfl ?_
      refine callSN_ok (av := [vI i]) (r := [.ref o9, vI i, .ref T]) X E (c_row hh i) lkX10_row mnX9_73 lsX10_row ⟨Nat.le_of_ble_eq_true rfl, Nat.le_of_ble_eq_true rfl⟩ ⟨by show 1 + i * (1 + C) + 1 ≤ 1 + 8 * (1 + C); omega, by show 8 + i * (1 + N) + 1 ≤ 8 + 8 * (1 + N); omega⟩ (Nat.le_of_ble_eq_true rfl) (dk rfl) ?_
      rintro v h2 ⟨q, rfl, hq, hBq, rfl⟩
      have XQ := Ext.new hq (IA [i])
      refine callV_ok (ci := 11) (T := TX9) (N := 3) (av := [.ref q]) (r := [vI i, .ref T]) X E (c_whole _ (M.ext (XX.trans XQ)) (hup_self _ _ _) ⟨TW.name (by omega), by simp⟩ hw) lkX9_whole mlX9_77 lmX9_whole lvX9_whole ⟨Nat.le_of_ble_eq_true rfl, Nat.le_of_ble_eq_true rfl⟩ ⟨by show 1 + i * (1 + C) + 1 + c1 ≤ 1 + 8 * (1 + C); omega, by show 8 + i * (1 + N) + 1 + n1 ≤ 8 + 8 * (1 + N); omega⟩ rfl (M.ext (XX.trans XQ)).1 (Nat.le_of_ble_eq_true rfl) (dk rfl) ?_
      rintro v h3 ⟨X3, hv⟩
      have X4 := XQ.trans X3
      have hT3 := X4 _ _ hTh
      refine WS.widen (k' := 1 + (i + 1) * (1 + C)) (n' := 8 + (i + 1) * (1 + N)) (by show 1 + i * (1 + C) + 1 + c1 ≤ 1 + (i + 1) * (1 + C); omega) (by show 8 + i * (1 + N) + 1 + n1 ≤ 8 + (i + 1) * (1 + N); omega) ?_
      have lf : (filR as 8).length = 8 := filR_len (by omega)
      rcases hv with ⟨h16, rfl⟩ | ⟨h16, tr, q5, rfl, hq5⟩
      · have e : (nI i).toNatClampNeg = i := nI_clamp (by omega)
        refine astN_ok X (dk rfl) hT3 rfl ⟨nI_pos (by omega), by rw [e, lf]; omega⟩ ?_
        rw [e]
        have XN : Ext h (hup h3 T (105, (filR as 8).set i .null)) := (XX.trans X4).set hT _
        iterate 2 refine fst1_ok X (dk rfl) rfl ?_
        refine ald_ok X (Or.inr (Or.inr ⟨rfl, by decide⟩)) (dk rfl) (hup_self _ _ _) (inA_nI (v := .null) (by omega) (List.getElem?_set_self (by rw [lf]; omega))) ?_
        refine br_ok X (dk rfl) rfl (show ((28 : Nat) : Int) + 5 = ((33 : Nat) : Int) from rfl) (fun c3 => absurd c3 (fun z => z)) (fun _ => ?_)
        refine fst1_ok X (dk rfl) rfl ?_
        exact reta_ok X hr hlk (Or.inr ⟨_, rfl⟩) (Or.inl rfl) (dk rfl) (Or.inl ⟨rfl, XN⟩) (by show 1 + (i + 1) * (1 + C) ≤ 1 + 8 * (1 + C); omega) (by show 8 + (i + 1) * (1 + N) ≤ 8 + 8 * (1 + N); omega)
      · refine str_ok X (dk rfl) hT3 hq5 (by rw [lf]; omega) (by rw [lf]; omega) ?_
        rw [show (filR as 8).set i (.ref q5) = filR (as ++ [q5]) 8 by rw [← ha]; exact filR_set (by omega)]
        iterate 2 refine fst1_ok X (dk rfl) rfl ?_
        refine ald_ok X (Or.inr (Or.inr ⟨rfl, by decide⟩)) (dk rfl) (hup_self _ _ _) (inA_nI (v := .ref q5) (by omega) (filR_get (by rw [← ha]; exact List.getElem?_concat_length))) ?_
        refine br_ok X (dk rfl) rfl (show ((28 : Nat) : Int) + 5 = ((33 : Nat) : Int) from rfl) (fun _ => ?_) (fun c3 => absurd trivial c3)
        repeat refine fst1_ok X (dk rfl) rfl ?_
        refine br_ok X (dk rfl) rfl (show ((36 : Nat) : Int) + (-28) = ((8 : Nat) : Int) from rfl) (fun _ => ?_) (fun q => absurd trivial q)
        refine WS.sel (l' := [(2, vI (i + 1)), (1, .ref T), (0, .ref o9)]) [2, 1, 0] (by rw [← f2]; rfl) ?_
        have kI : ∀ {b : Nat} {x : List Nat}, h3 b = some (IA x) → hup h3 T (105, filR (as ++ [q5]) 8) b = some (IA x) := fun {b x} hb => by rw [hup_ne _ _ (IA_ne hb hT3)]; exact hb
        refine ih (i + 1) (by omega) (by omega) _ (as ++ [q5]) (rows ++ [r]) _ rfl (by rw [List.length_append, ha]; rfl) (by rw [List.length_append, hrl]; rfl) (hup_self _ _ _) (fun k b x k1 k2 => ?_) (fun x hx => ?_) ((XX.trans X4).set hT _)
        · rcases Nat.lt_or_ge k i with z | z
          · rw [List.getElem?_append_left (by omega)] at k1 k2
            exact kI (X4 _ _ (has k b x k1 k2))
          · have hk : k = i := by have := (List.getElem?_eq_some_iff.mp k1).1; rw [List.length_append, List.length_singleton] at this; omega
            have k3 : (as ++ [q5])[k]? = some q5 := by rw [hk, ← ha]; exact List.getElem?_concat_length
            have k4 : (rows ++ [r])[k]? = some r := by rw [hk, ← hrl]; exact List.getElem?_concat_length
            cases k1.symm.trans k3
            cases k2.symm.trans k4
            exact kI hq5
        · rcases List.mem_append.mp hx with z | z
          · exact hro x z
          · simp at z; rw [z]; exact ⟨tr, h16⟩
  iterate 3 refine fst1_ok X (dk rfl) rfl ?_
  refine WS.widen (k' := 1 + 0 * (1 + C)) (n' := 8 + 0 * (1 + N)) (by show 0 + 1 ≤ 1 + 0 * (1 + C); omega) (by show 0 + 8 ≤ 8 + 0 * (1 + N); omega) ?_
  exact loop 8 0 rfl (Nat.zero_le _) _ [] [] _ rfl rfl rfl (by rw [hup_self, filR_0]) (fun k b r k1 => by simp at k1) (fun r hr => by simp at hr) (Ext.new hT _)
end M55
