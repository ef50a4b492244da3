/-! the reference's constructor, exactly (printed by wip/p20/genN4.py) -/
section F05
variable {la : Launch} {D : va_G} {cA : Nat → ClassId} {B0 pa : Nat} {o : Nat}
set_option maxHeartbeats 8000000 in
theorem RF.c_init10 (h : AH) (ho : h o = some (12, [.null, .null, .int 0, .int 0, .int 0, .int 0])) : CT la D cA B0 pa yX10_init cX10_init 2 none (rmD 2 35 63) [.ref o] h (fun v h' => v = none ∧ (∃ S A, h S = none ∧ h A = none ∧ MD h' o S A st0.1 st0.2.1 0 0 0 0) ∧ Fo o h h') := by
  refine CT_of (by decide +kernel) (Nat.le_of_ble_eq_true rfl) ?_
  intro p e s m args below meth c X E hr hlk hnm
  have dk : ∀ {pc : Nat} {q : Instr × Nat}, lkd DX10_init pc = some q → decode cX10_init pc = .ok q := lkd_ok DX10_init_ok
  repeat refine fst1_ok X (dk rfl) rfl ?_
  refine obj_ok X ml10_obj (dk rfl) (Nat.le_of_ble_eq_true rfl) (Nat.le_of_ble_eq_true rfl) (Nat.le_of_ble_eq_true rfl) ?_
  repeat refine fst1_ok X (dk rfl) rfl ?_
  refine newR_ok (N := 6) (kd := 105) X E (by decide) cl10_9 (by decide) (dk rfl) (by decide) (by decide) (fun S hS hBS => ?_)
  have XS := Ext.new hS ((105, List.replicate 6 Value.null) : AC)
  have hoS : o ≠ S := fun z => by rw [← z, ho] at hS; cases hS
  refine putf_ok X flX10_11 ftX10_0 (Or.inr ⟨by rw [hnm]; rfl, RX10, TX10, 6, rfl, rfl⟩) rfl rfl (dk rfl) (XS _ _ ho) (Nat.le_of_ble_eq_true rfl) ?_
  have ho1 : hup (hup h S (105, List.replicate 6 Value.null)) o (12, [Value.null, .null, .int 0, .int 0, .int 0, .int 0].set 0 (.ref S)) o = some (12, [Value.ref S, .null, .int 0, .int 0, .int 0, .int 0]) := hup_self _ _ _
  have hS1 : hup (hup h S (105, List.replicate 6 Value.null)) o (12, [Value.null, .null, .int 0, .int 0, .int 0, .int 0].set 0 (.ref S)) S = some (105, filR [] 6) := by rw [hup_ne _ _ hoS.symm, hup_self, filR_0]
  have F1 : Fo o h (hup (hup h S (105, List.replicate 6 Value.null)) o (12, [Value.null, .null, .int 0, .int 0, .int 0, .int 0].set 0 (.ref S))) := fun b c hb e => by rw [hup_ne _ _ hb]; exact XS _ _ e
  generalize hup (hup h S (105, List.replicate 6 Value.null)) o (12, [Value.null, .null, .int 0, .int 0, .int 0, .int 0].set 0 (.ref S)) = h1 at ho1 hS1 F1
  repeat refine fst1_ok X (dk rfl) rfl ?_
  refine newR_ok (N := 3) (kd := 106) X E (by decide) cl10_15 (by decide) (dk rfl) (Nat.le_of_ble_eq_true rfl) (Nat.le_of_ble_eq_true rfl) (fun A hA hBA => ?_)
  have XA := Ext.new hA ((106, List.replicate 3 Value.null) : AC)
  have hoA : o ≠ A := fun z => by rw [← z, ho1] at hA; cases hA
  have hSA : S ≠ A := fun z => by rw [← z, hS1] at hA; cases hA
  refine putf_ok X flX10_16 ftX10_1 (Or.inr ⟨by rw [hnm]; rfl, RX10, TX10, 6, rfl, rfl⟩) rfl rfl (dk rfl) (XA _ _ ho1) (Nat.le_of_ble_eq_true rfl) ?_
  have ho2 : hup (hup h1 A (106, List.replicate 3 Value.null)) o (12, [Value.ref S, .null, .int 0, .int 0, .int 0, .int 0].set 1 (.ref A)) o = some (12, [Value.ref S, .ref A, .int 0, .int 0, .int 0, .int 0]) := hup_self _ _ _
  have hA2 : hup (hup h1 A (106, List.replicate 3 Value.null)) o (12, [Value.ref S, .null, .int 0, .int 0, .int 0, .int 0].set 1 (.ref A)) A = some (106, filR [] 3) := by rw [hup_ne _ _ hoA.symm, hup_self, filR_0]
  have hS2 : hup (hup h1 A (106, List.replicate 3 Value.null)) o (12, [Value.ref S, .null, .int 0, .int 0, .int 0, .int 0].set 1 (.ref A)) S = some (105, filR [] 6) := by rw [hup_ne _ _ hoS.symm]; exact XA _ _ hS1
  have F2 : Fo o h (hup (hup h1 A (106, List.replicate 3 Value.null)) o (12, [Value.ref S, .null, .int 0, .int 0, .int 0, .int 0].set 1 (.ref A))) := fun b c hb e => by rw [hup_ne _ _ hb]; exact XA _ _ (F1 b c hb e)
  have hAn : h A = none := by
    cases hz : h A with
    | none => rfl
    | some c => have := F1 A c hoA.symm hz; rw [hA] at this; cases this
  generalize hup (hup h1 A (106, List.replicate 3 Value.null)) o (12, [Value.ref S, .null, .int 0, .int 0, .int 0, .int 0].set 1 (.ref A)) = h2 at ho2 hA2 hS2 F2
  -- the answers
  have loopA : ∀ (d i : Nat), d = 3 - i → i ≤ 3 → ∀ (hh : AH) (as : List Nat) (l : List (Nat × Value)), lsel l [1, 0] = [(1, vI i), (0, .ref o)] → as.length = i → hh o = some (12, [Value.ref S, .ref A, .int 0, .int 0, .int 0, .int 0]) → Ans hh S [[0], [1], [2], [3], [4], [5]] → hh A = some (106, filR as 3) → S ∉ as → (∀ k b : Nat, as[k]? = some b → Ans hh b [[0], [1], [2], [3], [4], [5], [6], [7]]) → Fo o h hh →
      WR p la e (rmD 2 35 63) s m args below meth c D cA B0 2 (fun v h' => v = none ∧ (∃ S A, h S = none ∧ h A = none ∧ MD h' o S A st0.1 st0.2.1 0 0 0 0) ∧ Fo o h h') 47 l [] hh (8 + 9 * i) (15 + 16 * i) := by
    intro d
    induction d with
    | zero =>
      intro i hd hi hh as l hl hla hoh hSh hAh hSn has FF
      have hi2 : i = 3 := by omega
      subst hi2
      refine WS.sel [1, 0] hl ?_
      repeat refine fst1_ok X (dk rfl) rfl ?_
      refine br_ok X (dk rfl) rfl (show ((49 : Nat) : Int) + 18 = ((67 : Nat) : Int) from rfl) (fun _ => ?_) (fun c1 => absurd (by decide) c1)
      refine retv_ok X hr hlk (dk rfl) ⟨rfl, ⟨S, A, hS, hAn, hoh, hSh, rfl, fun r hr => ?_, as, hla, rfl, by rw [hAh, ← hla, filR_end], hSn, fun k b rows e1 e2 => ?_⟩, FF⟩ (Nat.le_of_ble_eq_true rfl) (Nat.le_of_ble_eq_true rfl)
      · have hr : r ∈ ([[0], [1], [2], [3], [4], [5]] : List (List Nat)) := hr
        simp only [List.mem_cons, List.not_mem_nil, or_false] at hr
        rcases hr with rfl | rfl | rfl | rfl | rfl | rfl <;> exact ⟨TW.name (by omega), by decide⟩
      · have e2 : (List.replicate 3 rw0)[k]? = some rows := e2
        rw [List.getElem?_replicate] at e2
        split at e2
        · cases e2; exact ⟨has k b e1, AO_none⟩
        · cases e2
    | succ d ih =>
      intro i hd hi hh as l hl hla hoh hSh hAh hSn has FF
      have f2 : Value.int (nI i + Int32.ofInt 1) = vI (i + 1) := congrArg Value.int (by rw [nI_1', nI_add])
      refine WS.sel [1, 0] hl ?_
      repeat refine fst1_ok X (dk rfl) rfl ?_
      refine br_ok X (dk rfl) rfl (show ((49 : Nat) : Int) + 18 = ((67 : Nat) : Int) from rfl) (fun c1 => absurd c1 (nI_ge (a := i) (b := 3) (by omega) (by omega))) (fun _ => ?_)
      refine fst1_ok X (dk rfl) rfl ?_
      refine getf_ok X flX10_16 (dk rfl) hoh rfl ?_
      refine fst1_ok X (dk rfl) rfl ?_
      refine callS_ok (av := []) (r := [vI i, .ref A]) X E (c_none hh) lkX10_none mlX10_24 lsX10_none ⟨Nat.le_of_ble_eq_true rfl, Nat.le_of_ble_eq_true rfl⟩ ⟨by show 8 + 9 * i + 9 ≤ 35; omega, by show 15 + 16 * i + 16 ≤ 63; omega⟩ (Nat.le_of_ble_eq_true rfl) (dk rfl) ?_
      rintro v h3 ⟨N, rfl, hN, hBN, XN, nN⟩
      obtain ⟨vn, kn1⟩ := nN.kind
      obtain ⟨vS, kS⟩ := hSh.kind
      have hA3 := XN _ _ hAh
      refine sta_ok X (dk rfl) hA3 kn1 (by rw [filR_len (by omega)]; omega) (by rw [filR_len (by omega)]; omega) ?_
      rw [show (filR as 3).set i (.ref N) = filR (as ++ [N]) 3 by rw [← hla]; exact filR_set (by omega)]
      repeat refine fst1_ok X (dk rfl) rfl ?_
      refine br_ok X (dk rfl) rfl (show ((64 : Nat) : Int) + (-17) = ((47 : Nat) : Int) from rfl) (fun _ => ?_) (fun q => absurd trivial q)
      refine WS.widen (k' := 8 + 9 * (i + 1)) (n' := 15 + 16 * (i + 1)) (by show 8 + 9 * i + 9 ≤ 8 + 9 * (i + 1); omega) (by show 15 + 16 * i + 16 ≤ 15 + 16 * (i + 1); omega) ?_
      refine WS.sel (l' := [(1, vI (i + 1)), (0, .ref o)]) [1, 0] (by rw [← f2]; rfl) ?_
      have hAk : ∀ {b : Nat} {rows : List (List Nat)}, Ans h3 b rows → Ans (hup h3 A (106, filR (as ++ [N]) 3)) b rows := fun {b rows} H => by
        obtain ⟨vb, hb⟩ := H.kind
        exact H.hup (k_ne hA3 hb (by decide)) hA3 (by decide) _
      refine ih (i + 1) (by omega) (by omega) _ (as ++ [N]) _ rfl (by rw [List.length_append, hla]; rfl) (by rw [hup_ne _ _ (k_ne (XN _ _ hoh) hA3 (by decide))]; exact XN _ _ hoh) (hAk (hSh.ext XN)) (hup_self _ _ _) ?_ ?_ ?_
      · intro z
        rcases List.mem_append.mp z with q | q
        · exact hSn q
        · simp at q
          rw [← q, kS] at hN
          cases hN
      · intro k b hk
        rcases Nat.lt_or_ge k as.length with q | q
        · rw [List.getElem?_append_left q] at hk
          exact hAk ((has k b hk).ext XN)
        · have hk2 : k = as.length := by have := (List.getElem?_eq_some_iff.mp hk).1; rw [List.length_append, List.length_singleton] at this; omega
          rw [hk2, List.getElem?_concat_length] at hk
          cases hk
          exact hAk nN
      · intro b c hb e
        rw [hup_ne _ _ (fun z => by rw [z, hAn] at e; cases e)]
        exact XN _ _ (FF b c hb e)
  -- the slots
  have loopS : ∀ (d i : Nat), d = 6 - i → i ≤ 6 → ∀ (hh : AH) (as : List Nat) (l : List (Nat × Value)), lsel l [1, 0] = [(1, vI i), (0, .ref o)] → as.length = i → hh o = some (12, [Value.ref S, .ref A, .int 0, .int 0, .int 0, .int 0]) → hh S = some (105, filR as 6) → hh A = some (106, filR [] 3) → (∀ k b : Nat, as[k]? = some b → hh b = some (IA [k])) → Fo o h hh →
      WR p la e (rmD 2 35 63) s m args below meth c D cA B0 2 (fun v h' => v = none ∧ (∃ S A, h S = none ∧ h A = none ∧ MD h' o S A st0.1 st0.2.1 0 0 0 0) ∧ Fo o h h') 23 l [] hh (2 + i) (9 + i) := by
    intro d
    induction d with
    | zero =>
      intro i hd hi hh as l hl hla hoh hSh hAh has FF
      have hi2 : i = 6 := by omega
      subst hi2
      refine WS.sel [1, 0] hl ?_
      repeat refine fst1_ok X (dk rfl) rfl ?_
      refine br_ok X (dk rfl) rfl (show ((26 : Nat) : Int) + 19 = ((45 : Nat) : Int) from rfl) (fun _ => ?_) (fun c1 => absurd (by decide) c1)
      iterate 2 refine fst1_ok X (dk rfl) rfl ?_
      refine loopA 3 0 rfl (Nat.zero_le _) hh [] _ rfl rfl hoh ⟨as, hla, by rw [hSh, ← hla, filR_end], fun k a r e1 e2 => ?_⟩ hAh (by simp) (fun k b hk => by simp at hk) FF
      have h4 := has k a e1
      have hk6 : k < 6 := by rw [← hla]; exact (List.getElem?_eq_some_iff.mp e1).1
      have e3 : ([[0], [1], [2], [3], [4], [5]] : List (List Nat))[k]? = some [k] := by
        match k, hk6 with
        | 0, _ => rfl
        | 1, _ => rfl
        | 2, _ => rfl
        | 3, _ => rfl
        | 4, _ => rfl
        | 5, _ => rfl
      cases e2.symm.trans e3
      exact h4
    | succ d ih =>
      intro i hd hi hh as l hl hla hoh hSh hAh has FF
      have f2 : Value.int (nI i + Int32.ofInt 1) = vI (i + 1) := congrArg Value.int (by rw [nI_1', nI_add])
      refine WS.sel [1, 0] hl ?_
      repeat refine fst1_ok X (dk rfl) rfl ?_
      refine br_ok X (dk rfl) rfl (show ((26 : Nat) : Int) + 19 = ((45 : Nat) : Int) from rfl) (fun c1 => absurd c1 (nI_ge (a := i) (b := 6) (by omega) (by omega))) (fun _ => ?_)
      refine fst1_ok X (dk rfl) rfl ?_
      refine getf_ok X flX10_11 (dk rfl) hoh rfl ?_
      repeat refine fst1_ok X (dk rfl) rfl ?_
      refine callS_ok (av := [vI i]) (r := [vI i, .ref S]) X E (c_row hh i) lkX10_row mlX10_20 lsX10_row ⟨Nat.le_of_ble_eq_true rfl, Nat.le_of_ble_eq_true rfl⟩ ⟨by show 2 + i + 1 ≤ 35; omega, by show 9 + i + 1 ≤ 63; omega⟩ (Nat.le_of_ble_eq_true rfl) (dk rfl) ?_
      rintro v h3 ⟨q, rfl, hq, hBq, rfl⟩
      have XN := Ext.new hq (IA [i])
      have hS3 := XN _ _ hSh
      refine str_ok X (dk rfl) hS3 (hup_self _ _ _) (by rw [filR_len (by omega)]; omega) (by rw [filR_len (by omega)]; omega) ?_
      rw [show (filR as 6).set i (.ref q) = filR (as ++ [q]) 6 by rw [← hla]; exact filR_set (by omega)]
      repeat refine fst1_ok X (dk rfl) rfl ?_
      refine br_ok X (dk rfl) rfl (show ((42 : Nat) : Int) + (-19) = ((23 : Nat) : Int) from rfl) (fun _ => ?_) (fun q => absurd trivial q)
      refine WS.sel (l' := [(1, vI (i + 1)), (0, .ref o)]) [1, 0] (by rw [← f2]; rfl) ?_
      have kI : ∀ {b : Nat} {x : List Nat}, hup hh q (IA [i]) b = some (IA x) → hup (hup hh q (IA [i])) S (105, filR (as ++ [q]) 6) b = some (IA x) := fun {b x} hb => by rw [hup_ne _ _ (IA_ne hb hS3)]; exact hb
      refine ih (i + 1) (by omega) (by omega) _ (as ++ [q]) _ rfl (by rw [List.length_append, hla]; rfl) (by rw [hup_ne _ _ (k_ne (XN _ _ hoh) hS3 (by decide))]; exact XN _ _ hoh) (hup_self _ _ _) (by rw [hup_ne _ _ (k_ne (XN _ _ hAh) hS3 (by decide))]; exact XN _ _ hAh) ?_ ?_
      · intro k b hk
        rcases Nat.lt_or_ge k as.length with z | z
        · rw [List.getElem?_append_left z] at hk
          exact kI (XN _ _ (has k b hk))
        · have hk2 : k = as.length := by have := (List.getElem?_eq_some_iff.mp hk).1; rw [List.length_append, List.length_singleton] at this; omega
          rw [hk2, List.getElem?_concat_length] at hk
          cases hk
          rw [hk2, hla]
          exact kI (hup_self _ _ _)
      · intro b c hb e
        rw [hup_ne _ _ (fun z => by rw [z, hS] at e; cases e)]
        exact XN _ _ (FF b c hb e)
  iterate 2 refine fst1_ok X (dk rfl) rfl ?_
  exact loopS 6 0 rfl (Nat.zero_le _) h2 [] _ rfl rfl ho2 hS2 hA2 (fun k b hk => by simp at hk) F2

end F05
