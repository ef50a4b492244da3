section Ug05start
/-! the start: what the Statement gives of it (printed by wip/rows/genG5.py) -/
theorem gv_l {a b : Cond} {args : Array Value} {s : State} (h : (Jvm.Cond.and a b).before args s = true) : a.before args s = true := by
  rw [Cond.before_and, Bool.and_eq_true] at h
  exact h.1
theorem gv_r {a b : Cond} {args : Array Value} {s : State} (h : (Jvm.Cond.and a b).before args s = true) : b.before args s = true := by
  rw [Cond.before_and, Bool.and_eq_true] at h
  exact h.2
theorem over_arr {args : Array Value} {s : State} {t : FieldType} (h : (Cond.arrayOver (.array t)).before args s = true) : ∃ comp c k, s.vm.findClass (FieldType.array t).toString = some comp ∧ s.vm.classes[c]? = some k ∧ k.kind = .array comp (.array t) ∧ s.vm.findClass ("[" ++ (FieldType.array t).toString) = some c := by
  simp only [Cond.before, Cond.holds, Cond.value, beq_iff_eq] at h
  cases hc : s.vm.findClass (FieldType.array t).toString with
  | none => simp [hc] at h
  | some comp =>
    simp only [hc, Option.bind_some, Option.bind_eq_some_iff, Option.map_eq_some_iff] at h
    obtain ⟨c, hi, k, hk, hb⟩ := h
    obtain ⟨hlt, hp, -⟩ := Array.findIdx?_eq_some_iff_getElem.mp hi
    have hkk : s.vm.classes[c] = k := (Array.getElem?_eq_some_iff.mp hk).2
    rw [hkk] at hp
    refine ⟨comp, c, k, rfl, hk, ?_⟩
    cases hkind : k.kind <;> rw [hkind] at hb hp <;> simp at hb hp
    exact ⟨by rw [hp, hb.1], hb.2⟩
theorem sel4 {y : MethodName} {s : State} {args : Array Value} (hc : y.cls = RJ5) (hy : y.cls ≠ "java/lang/invoke/MethodHandle" ∧ y.cls ≠ "java/lang/invoke/VarHandle") (h4 : (Cond.instantiable RJ4 4).before args s = true) (hlat : (Cond.selects RJ4 yJ5_isLatin1_aae02 yJ5_isLatin1_aae02).before args s = true)
    (hpriv : (Cond.privateMethod y).before args s = true) (hinst : (Cond.instanceMethod y).before args s = true) : (Cond.selects RJ4 y y).before args s = true := by
  obtain ⟨c, k, h1, -⟩ := Cond.instantiable_spec h4
  obtain ⟨c2, r2, m2, g1, g2, g3, g4, mk2, g5, g6⟩ := Cond.selects_spec hlat
  obtain ⟨mk, methM, hnamed, hmethM, -, -⟩ := Cond.instanceMethod_spec hinst
  have hfound : s.methodFound? y.cls y.name y.desc = some mk := State.methodFound?_of_named hnamed hy
  have hcls : mk.cls = m2.cls := Option.some.inj ((findClass_of_methodNamed hnamed).symm.trans (by rw [hc]; exact findClass_of_methodNamed g3))
  have hsel : selectMethod {} s.vm c mk = .method mk := selectMethod_private hmethM (Cond.privateMethod_at hpriv mk methM hnamed hmethM)
  simp only [Cond.before, Cond.holds, Cond.value, h1, hfound, hnamed, hsel, hcls, g5]
  simp; exact g6
set_option maxRecDepth 100000 in
theorem law_words {s : State} {args : Array Value} (hts : ∀ w ∈ lw_tbl, w.before args s = true) : ∀ w ∈ WT, w.before args s = true := by
  intro w hw
  rcases List.mem_append.mp hw with hw | hw
  · exact hts w (List.mem_filter.mp hw).1
  · have h4 := hts (Cond.instantiable RJ4 4) (tbw_4 (List.mem_of_getElem? (i := 142) rfl))
    have hl := hts (Cond.selects RJ4 yJ5_isLatin1_aae02 yJ5_isLatin1_aae02) (tbw_5 (List.mem_of_getElem? (i := 24) rfl))
    simp only [selT, List.mem_cons, List.not_mem_nil, or_false] at hw
    rcases hw with rfl | rfl | rfl | rfl
    · exact sel4 rfl ⟨by decide, by decide⟩ h4 hl (hts _ (tbw_4 (List.mem_of_getElem? (i := 231) rfl))) (hts _ (tbw_4 (List.mem_of_getElem? (i := 232) rfl)))
    · exact sel4 rfl ⟨by decide, by decide⟩ h4 hl (hts _ (tbw_4 (List.mem_of_getElem? (i := 235) rfl))) (hts _ (tbw_4 (List.mem_of_getElem? (i := 236) rfl)))
    · exact sel4 rfl ⟨by decide, by decide⟩ h4 hl (hts _ (tbw_5 (List.mem_of_getElem? (i := 145) rfl))) (hts _ (tbw_5 (List.mem_of_getElem? (i := 146) rfl)))
    · exact sel4 rfl ⟨by decide, by decide⟩ h4 hl (hts _ (tbw_5 (List.mem_of_getElem? (i := 149) rfl))) (hts _ (tbw_5 (List.mem_of_getElem? (i := 150) rfl)))
theorem str_of {args : Array Value} {s : State} {own : String} {k : Nat} {tx : String} (h1 : (Cond.stringRef own k tx).before args s = true) (h : (Cond.exactly (Term.string own k) "java/lang/String").before args s = true) : ∃ a, vk_R own k tx a s := by
  obtain ⟨a, c, cA, kA, q1, -⟩ := Cond.exactly_spec (args := args) (first := s) (o := none) (s := s) (idx := []) (t := Term.string own k) (cls := "java/lang/String") h
  exact ⟨a, vk_R.of h1 q1⟩
set_option maxRecDepth 100000 in
set_option maxHeartbeats 4000000 in
theorem law_cls {s : State} {args : Array Value} (hts : ∀ w ∈ lw_tbl, w.before args s = true) : ∃ (dC : Nat → ClassId) (dI : Nat → Nat → Nat), ∀ (k : Nat) (q : vw_C), vwCl[k]? = some q → u_Kn s q.1 q.2.1 q.2.2 (dC k) (dI k) := by
  have hW := law_words hts
  obtain ⟨c0, i0, k0⟩ := u_known (C := RJ0) (T := TJ0) (N := 4) (n := 4) hW cwJ0 (hts (.instantiable RJ0 4) (tbw_5 (List.mem_of_getElem? (i := 60) rfl)))
  obtain ⟨c1, i1, k1⟩ := u_known (C := RJ4) (T := TJ4) (N := 4) (n := 4) hW cwJ4 (hts (.instantiable RJ4 4) (tbw_4 (List.mem_of_getElem? (i := 142) rfl)))
  obtain ⟨c2, i2, k2⟩ := u_known (C := RX0) (T := TX0) (N := 1) (n := 1) hW cwX0 (hts (.instantiable RX0 1) (tbw_1 (List.mem_of_getElem? (i := 60) rfl)))
  obtain ⟨c3, i3, k3⟩ := u_known (C := RX1) (T := TX1) (N := 5) (n := 5) hW cwX1 (hts (.instantiable RX1 5) (tbw_1 (List.mem_of_getElem? (i := 124) rfl)))
  obtain ⟨c4, i4, k4⟩ := u_known (C := RX2) (T := TX2) (N := 3) (n := 3) hW cwX2 (hts (.instantiable RX2 3) (tbw_1 (List.mem_of_getElem? (i := 92) rfl)))
  obtain ⟨c5, i5, k5⟩ := u_known (C := RX3) (T := TX3) (N := 1) (n := 1) hW cwX3 (hts (.instantiable RX3 1) (tbw_1 (List.mem_of_getElem? (i := 150) rfl)))
  obtain ⟨c6, i6, k6⟩ := u_known (C := RX4) (T := TX4) (N := 5) (n := 5) hW cwX4 (hts (.instantiable RX4 5) (tbw_1 (List.mem_of_getElem? (i := 84) rfl)))
  obtain ⟨c7, i7, k7⟩ := u_known (C := RX5) (T := TX5) (N := 3) (n := 3) hW cwX5 (hts (.instantiable RX5 3) (tbw_1 (List.mem_of_getElem? (i := 41) rfl)))
  obtain ⟨c8, i8, k8⟩ := u_known (C := RX6) (T := TX6) (N := 14) (n := 14) hW cwX6 (hts (.instantiable RX6 14) (tbw_1 (List.mem_of_getElem? (i := 30) rfl)))
  obtain ⟨c9, i9, k9⟩ := u_known (C := RX7) (T := TX7) (N := 2) (n := 2) hW cwX7 (hts (.instantiable RX7 2) (tbw_3 (List.mem_of_getElem? (i := 177) rfl)))
  obtain ⟨c10, i10, k10⟩ := u_known (C := RX8) (T := TX8) (N := 5) (n := 5) hW cwX8 (hts (.instantiable RX8 5) (tbw_7 (List.mem_of_getElem? (i := 67) rfl)))
  obtain ⟨c11, i11, k11⟩ := u_known (C := RX9) (T := TX9) (N := 3) (n := 3) hW cwX9 (hts (.instantiable RX9 3) (tbw_7 (List.mem_of_getElem? (i := 23) rfl)))
  obtain ⟨c12, i12, k12⟩ := u_known (C := RX10) (T := TX10) (N := 6) (n := 6) hW cwX10 (hts (.instantiable RX10 6) (tbw_6 (List.mem_of_getElem? (i := 73) rfl)))
  have h0 : ∀ k : Nat, ∃ q : ClassId × (Nat → Nat), ∀ r : vw_C, vwCl[k]? = some r → u_Kn s r.1 r.2.1 r.2.2 q.1 q.2 := by
    intro k
    match k with
    | 0 => exact ⟨(c0, i0), fun r hr => by cases hr; exact k0⟩
    | 1 => exact ⟨(c1, i1), fun r hr => by cases hr; exact k1⟩
    | 2 => exact ⟨(c2, i2), fun r hr => by cases hr; exact k2⟩
    | 3 => exact ⟨(c3, i3), fun r hr => by cases hr; exact k3⟩
    | 4 => exact ⟨(c4, i4), fun r hr => by cases hr; exact k4⟩
    | 5 => exact ⟨(c5, i5), fun r hr => by cases hr; exact k5⟩
    | 6 => exact ⟨(c6, i6), fun r hr => by cases hr; exact k6⟩
    | 7 => exact ⟨(c7, i7), fun r hr => by cases hr; exact k7⟩
    | 8 => exact ⟨(c8, i8), fun r hr => by cases hr; exact k8⟩
    | 9 => exact ⟨(c9, i9), fun r hr => by cases hr; exact k9⟩
    | 10 => exact ⟨(c10, i10), fun r hr => by cases hr; exact k10⟩
    | 11 => exact ⟨(c11, i11), fun r hr => by cases hr; exact k11⟩
    | 12 => exact ⟨(c12, i12), fun r hr => by cases hr; exact k12⟩
    | k + 13 => exact ⟨(c0, i0), fun r hr => by simp at hr⟩
  obtain ⟨f, hf⟩ := Classical.axiomOfChoice h0
  exact ⟨fun k => (f k).1, fun k => (f k).2, fun k q hq => hf k q hq⟩
set_option maxRecDepth 100000 in
set_option maxHeartbeats 4000000 in
theorem law_arr {s : State} {args : Array Value} (hts : ∀ w ∈ lw_tbl, w.before args s = true) : (∃ cA : Nat → ClassId, KA cA s) ∧ OV #[] s := by
  have o3 := hts (Cond.arrayOver (.object RX5)) (tbw_1 (List.mem_of_getElem? (i := 38) rfl))
  have o4 := hts (Cond.arrayOver (.object RX0)) (tbw_1 (List.mem_of_getElem? (i := 40) rfl))
  have o5 := hts (Cond.arrayOver (.array .int)) (tbw_6 (List.mem_of_getElem? (i := 79) rfl))
  have o6 := hts (Cond.arrayOver (.array (.array .int))) (tbw_6 (List.mem_of_getElem? (i := 81) rfl))
  refine ⟨?_, OV.moved (A := args) (Vm.Alike.refl _) (fun kd h1 h2 => ?_)⟩
  · have h0 : ∀ k : Nat, ∃ cA : ClassId, 100 ≤ k → k < 108 → ∃ (kA : Class) (comp : ClassId), s.vm.classes[cA]? = some kA ∧ kA.kind = .array comp (aty k) ∧ s.vm.findClass ("[" ++ (aty k).toString) = some cA ∧ ((aty k).isReference = true → s.vm.findClass (cnm (aty k)) = some comp) := by
      intro k
      obtain ⟨c, k1, comp, h1, h2, h3⟩ := Cond.arrayClass_spec (hts (Cond.arrayClass .int) (tbw_1 (List.mem_of_getElem? (i := 59) rfl)))
      by_cases e : k < 100 ∨ 108 ≤ k
      · exact ⟨c, fun h1 h2 => by omega⟩
      have hk : k = 100 ∨ k = 101 ∨ k = 102 ∨ k = 103 ∨ k = 104 ∨ k = 105 ∨ k = 106 ∨ k = 107 := by omega
      rcases hk with rfl | rfl | rfl | rfl | rfl | rfl | rfl | rfl
      · exact ⟨c, fun _ _ => ⟨k1, comp, h2, h3, h1, fun z => by cases z⟩⟩
      · obtain ⟨c, k1, comp, h1, h2, h3⟩ := Cond.arrayClass_spec (hts (Cond.arrayClass .boolean) (tbw_7 (List.mem_of_getElem? (i := 121) rfl)))
        exact ⟨c, fun _ _ => ⟨k1, comp, h2, h3, h1, fun z => by cases z⟩⟩
      · obtain ⟨c, k1, comp, h1, h2, h3⟩ := Cond.arrayClass_spec (hts (Cond.arrayClass .byte) (tbw_3 (List.mem_of_getElem? (i := 76) rfl)))
        exact ⟨c, fun _ _ => ⟨k1, comp, h2, h3, h1, fun z => by cases z⟩⟩
      · obtain ⟨comp, c, k1, h1, -, h2, h3, h4⟩ := Cond.arrayOver_spec o3
        exact ⟨c, fun _ _ => ⟨k1, comp, h2, h3, h4, fun _ => h1⟩⟩
      · obtain ⟨comp, c, k1, h1, -, h2, h3, h4⟩ := Cond.arrayOver_spec o4
        exact ⟨c, fun _ _ => ⟨k1, comp, h2, h3, h4, fun _ => h1⟩⟩
      · obtain ⟨comp, c, k1, h1, h2, h3, h4⟩ := over_arr o5
        exact ⟨c, fun _ _ => ⟨k1, comp, h2, h3, h4, fun _ => h1⟩⟩
      · obtain ⟨comp, c, k1, h1, h2, h3, h4⟩ := over_arr o6
        exact ⟨c, fun _ _ => ⟨k1, comp, h2, h3, h4, fun _ => h1⟩⟩
      · exact ⟨c, fun _ _ => ⟨k1, comp, h2, h3, h1, fun z => by cases z⟩⟩
    obtain ⟨f, hf⟩ := Classical.axiomOfChoice h0
    exact ⟨f, hf⟩
  · have hk : kd = 103 ∨ kd = 104 ∨ kd = 105 ∨ kd = 106 := by omega
    rcases hk with rfl | rfl | rfl | rfl
    · exact o3
    · exact o4
    · exact o5
    · exact o6
set_option maxRecDepth 100000 in
set_option maxHeartbeats 8000000 in
theorem law_parts {s : State} {args : Array Value} (hts : ∀ w ∈ lw_tbl, w.before args s = true) (hgv : (Jvm.Cond.and given_1 narrow_1).before args s = true) :
    ∃ pa : Nat, va_Z RX6 "PARTS" "[I" (.ref pa) (fun q : Nat => s.heap.size ≤ q) s s.heap ∧ va_T .int pa 8 partsF (fun q : Nat => s.heap.size ≤ q) s s.heap := by
  have hA : ∀ a : Nat, a < s.heap.size → ¬ s.heap.size ≤ a := fun a h => by omega
  obtain ⟨t, h1, h2⟩ := va_Tof (s := s) (args := args) (tm := Term.static "Branchmatch" "PARTS" "[I") (ty := .int) (N := 8) (f := partsF) (A := fun q : Nat => s.heap.size ≤ q) (by decide) (gv_r (gv_r (gv_l (gv_l (gv_l (gv_l (gv_l (gv_l (gv_l (gv_r hgv)))))))))) (va_eqt (gv_l (gv_l (gv_r (gv_l (gv_l (gv_l (gv_l (gv_l (gv_l (gv_r hgv))))))))))) (fun j hj => by
    match j, hj with
    | 0, _ => exact va_eqt (gv_r (gv_l (gv_r (gv_l (gv_l (gv_l (gv_l (gv_l (gv_l (gv_r hgv))))))))))
    | 1, _ => exact va_eqt (gv_l (gv_r (gv_r (gv_l (gv_l (gv_l (gv_l (gv_l (gv_l (gv_r hgv))))))))))
    | 2, _ => exact va_eqt (gv_l (gv_r (gv_r (gv_r (gv_l (gv_l (gv_l (gv_l (gv_l (gv_l (gv_r hgv)))))))))))
    | 3, _ => exact va_eqt (gv_r (gv_r (gv_r (gv_r (gv_l (gv_l (gv_l (gv_l (gv_l (gv_l (gv_r hgv)))))))))))
    | 4, _ => exact va_eqt (gv_l (gv_l (gv_l (gv_r (gv_l (gv_l (gv_l (gv_l (gv_l (gv_r hgv))))))))))
    | 5, _ => exact va_eqt (gv_r (gv_l (gv_l (gv_r (gv_l (gv_l (gv_l (gv_l (gv_l (gv_r hgv))))))))))
    | 6, _ => exact va_eqt (gv_l (gv_r (gv_l (gv_r (gv_l (gv_l (gv_l (gv_l (gv_l (gv_r hgv))))))))))
    | 7, _ => exact va_eqt (gv_l (gv_r (gv_r (gv_l (gv_r (gv_l (gv_l (gv_l (gv_l (gv_l (gv_r hgv)))))))))))
    | k + 8, h => omega) hA
  exact ⟨t, va_Zof (hts _ (tbw_2 (List.mem_of_getElem? (i := 49) rfl))) (hts _ (tbw_1 (List.mem_of_getElem? (i := 1) rfl))) h1 hA, h2⟩
set_option maxRecDepth 100000 in
set_option maxHeartbeats 16000000 in
theorem law_txt {s : State} {args : Array Value} (hts : ∀ w ∈ lw_tbl, w.before args s = true) (hgv : (Jvm.Cond.and given_1 narrow_1).before args s = true) :
    ∃ adK adV : Nat → Nat, vk_S 5 scL scB adK adV (fun q : Nat => s.heap.size ≤ q) s s.heap ∧ ∀ i, i < 5 → vk_R (scO i) (scK i) (scT i) (adK i) s := by
  have hA : ∀ a : Nat, a < s.heap.size → ¬ s.heap.size ≤ a := fun a h => by omega
  obtain ⟨adK, adV, h1, h2⟩ := vk_Sof (s := s) (args := args) (N := 5) (tm := fun i => Term.string (scO i) (scK i)) (len := scL) (byt := scB) (A := fun q : Nat => s.heap.size ≤ q) (by decide)
    (fun i hi => by
      match i, hi with
      | 0, _ => exact gv_l (gv_l (gv_l (gv_r (gv_r (gv_r (gv_l (gv_r (gv_r (gv_r hgv)))))))))
      | 1, _ => exact gv_r (gv_l (gv_r (gv_l (gv_l (gv_l (gv_r (gv_r (gv_r (gv_r hgv)))))))))
      | 2, _ => exact gv_r (gv_r (gv_l (gv_l (gv_r (gv_l (gv_r (gv_r (gv_r (gv_r hgv)))))))))
      | 3, _ => exact gv_l (gv_r (gv_l (gv_l (gv_l (gv_r (gv_r (gv_r (gv_r (gv_r hgv)))))))))
      | 4, _ => exact gv_r (gv_r (gv_r (gv_r (gv_r (gv_r (gv_r (gv_r (gv_l (gv_r (gv_r hgv))))))))))
      | k + 5, h => omega)
    (fun i hi => by
      match i, hi with
      | 0, _ => exact gv_r (gv_l (gv_l (gv_r (gv_r (gv_r (gv_l (gv_r (gv_r (gv_r hgv)))))))))
      | 1, _ => exact gv_l (gv_r (gv_r (gv_l (gv_l (gv_l (gv_r (gv_r (gv_r (gv_r hgv)))))))))
      | 2, _ => exact gv_l (gv_l (gv_r (gv_l (gv_r (gv_l (gv_r (gv_r (gv_r (gv_r hgv)))))))))
      | 3, _ => exact gv_r (gv_r (gv_l (gv_l (gv_l (gv_r (gv_r (gv_r (gv_r (gv_r hgv)))))))))
      | 4, _ => exact gv_l (gv_l (gv_l (gv_l (gv_l (gv_l (gv_l (gv_r (gv_r (gv_r hgv)))))))))
      | k + 5, h => omega)
    (fun i hi => by
      match i, hi with
      | 0, _ => exact gv_l (gv_r (gv_l (gv_r (gv_r (gv_r (gv_l (gv_r (gv_r (gv_r hgv)))))))))
      | 1, _ => exact gv_l (gv_r (gv_r (gv_r (gv_l (gv_l (gv_l (gv_r (gv_r (gv_r (gv_r hgv))))))))))
      | 2, _ => exact gv_r (gv_l (gv_r (gv_l (gv_r (gv_l (gv_r (gv_r (gv_r (gv_r hgv)))))))))
      | 3, _ => exact gv_l (gv_l (gv_r (gv_l (gv_l (gv_r (gv_r (gv_r (gv_r (gv_r hgv)))))))))
      | 4, _ => exact gv_r (gv_l (gv_l (gv_l (gv_l (gv_l (gv_l (gv_r (gv_r (gv_r hgv)))))))))
      | k + 5, h => omega)
    (fun i hi => by
      match i, hi with
      | 0, _ => exact gv_l (gv_r (gv_r (gv_l (gv_r (gv_r (gv_r (gv_l (gv_r (gv_r (gv_r hgv))))))))))
      | 1, _ => exact gv_r (gv_r (gv_r (gv_r (gv_l (gv_l (gv_l (gv_r (gv_r (gv_r (gv_r hgv))))))))))
      | 2, _ => exact gv_l (gv_r (gv_r (gv_l (gv_r (gv_l (gv_r (gv_r (gv_r (gv_r hgv)))))))))
      | 3, _ => exact gv_r (gv_l (gv_r (gv_l (gv_l (gv_r (gv_r (gv_r (gv_r (gv_r hgv)))))))))
      | 4, _ => exact gv_l (gv_r (gv_l (gv_l (gv_l (gv_l (gv_l (gv_r (gv_r (gv_r hgv)))))))))
      | k + 5, h => omega)
    (fun i hi j hj => by
      match i, hi with
      | 0, _ =>
        have hj2 : j < 0 := hj
        omega
      | 1, _ =>
        have hj2 : j < 1 := hj
        match j, hj2 with
        | 0, _ => exact gv_l (gv_l (gv_l (gv_r (gv_l (gv_l (gv_r (gv_r (gv_r (gv_r hgv)))))))))
        | k + 1, h => omega
      | 2, _ =>
        have hj2 : j < 1 := hj
        match j, hj2 with
        | 0, _ => exact gv_l (gv_r (gv_r (gv_r (gv_l (gv_r (gv_l (gv_r (gv_r (gv_r (gv_r hgv))))))))))
        | k + 1, h => omega
      | 3, _ =>
        have hj2 : j < 1 := hj
        match j, hj2 with
        | 0, _ => exact gv_l (gv_r (gv_r (gv_l (gv_l (gv_r (gv_r (gv_r (gv_r (gv_r hgv)))))))))
        | k + 1, h => omega
      | 4, _ =>
        have hj2 : j < 8 := hj
        match j, hj2 with
        | 0, _ => exact gv_r (gv_r (gv_l (gv_l (gv_l (gv_l (gv_l (gv_r (gv_r (gv_r hgv)))))))))
        | 1, _ => exact gv_l (gv_l (gv_r (gv_l (gv_l (gv_l (gv_l (gv_r (gv_r (gv_r hgv)))))))))
        | 2, _ => exact gv_r (gv_l (gv_r (gv_l (gv_l (gv_l (gv_l (gv_r (gv_r (gv_r hgv)))))))))
        | 3, _ => exact gv_l (gv_r (gv_r (gv_l (gv_l (gv_l (gv_l (gv_r (gv_r (gv_r hgv)))))))))
        | 4, _ => exact gv_l (gv_r (gv_r (gv_r (gv_l (gv_l (gv_l (gv_l (gv_r (gv_r (gv_r hgv))))))))))
        | 5, _ => exact gv_r (gv_r (gv_r (gv_r (gv_l (gv_l (gv_l (gv_l (gv_r (gv_r (gv_r hgv))))))))))
        | 6, _ => exact gv_l (gv_l (gv_l (gv_r (gv_l (gv_l (gv_l (gv_r (gv_r (gv_r hgv)))))))))
        | 7, _ => exact gv_r (gv_l (gv_l (gv_r (gv_l (gv_l (gv_l (gv_r (gv_r (gv_r hgv)))))))))
        | k + 8, h => omega
      | k + 5, h => omega)
    (fun i j hi hj hij => by
      match i, hi, j, hj with
      | 0, _, 0, _ => exact absurd rfl hij
      | 0, _, 1, _ => exact Or.inl (gv_l (gv_r (gv_l (gv_l (gv_r (gv_l (gv_r (gv_r (gv_r (gv_r hgv))))))))))
      | 0, _, 2, _ => exact Or.inl (gv_l (gv_l (gv_l (gv_l (gv_l (gv_r (gv_r (gv_r (gv_r (gv_r hgv))))))))))
      | 0, _, 3, _ => exact Or.inl (gv_r (gv_r (gv_r (gv_r (gv_r (gv_l (gv_r (gv_r (gv_r (gv_r (gv_r hgv)))))))))))
      | 0, _, 4, _ => exact Or.inr (gv_l (gv_r (gv_l (gv_l (gv_l (gv_l (gv_r (gv_r (gv_r (gv_r hgv))))))))))
      | 1, _, 0, _ => exact Or.inr (gv_l (gv_r (gv_l (gv_l (gv_r (gv_l (gv_r (gv_r (gv_r (gv_r hgv))))))))))
      | 1, _, 1, _ => exact absurd rfl hij
      | 1, _, 2, _ => exact Or.inl (gv_r (gv_l (gv_l (gv_l (gv_l (gv_r (gv_r (gv_r (gv_r (gv_r hgv))))))))))
      | 1, _, 3, _ => exact Or.inl (gv_l (gv_l (gv_l (gv_l (gv_r (gv_r (gv_r (gv_r (gv_r (gv_r hgv))))))))))
      | 1, _, 4, _ => exact Or.inr (gv_r (gv_r (gv_r (gv_r (gv_r (gv_l (gv_l (gv_r (gv_r (gv_r (gv_r hgv)))))))))))
      | 2, _, 0, _ => exact Or.inr (gv_l (gv_l (gv_l (gv_l (gv_l (gv_r (gv_r (gv_r (gv_r (gv_r hgv))))))))))
      | 2, _, 1, _ => exact Or.inr (gv_r (gv_l (gv_l (gv_l (gv_l (gv_r (gv_r (gv_r (gv_r (gv_r hgv))))))))))
      | 2, _, 2, _ => exact absurd rfl hij
      | 2, _, 3, _ => exact Or.inl (gv_r (gv_l (gv_l (gv_l (gv_r (gv_r (gv_r (gv_r (gv_r (gv_r hgv))))))))))
      | 2, _, 4, _ => exact Or.inr (gv_l (gv_r (gv_r (gv_r (gv_r (gv_l (gv_r (gv_r (gv_r (gv_r hgv))))))))))
      | 3, _, 0, _ => exact Or.inr (gv_r (gv_r (gv_r (gv_r (gv_r (gv_l (gv_r (gv_r (gv_r (gv_r (gv_r hgv)))))))))))
      | 3, _, 1, _ => exact Or.inr (gv_l (gv_l (gv_l (gv_l (gv_r (gv_r (gv_r (gv_r (gv_r (gv_r hgv))))))))))
      | 3, _, 2, _ => exact Or.inr (gv_r (gv_l (gv_l (gv_l (gv_r (gv_r (gv_r (gv_r (gv_r (gv_r hgv))))))))))
      | 3, _, 3, _ => exact absurd rfl hij
      | 3, _, 4, _ => exact Or.inr (gv_r (gv_l (gv_r (gv_r (gv_l (gv_r (gv_r (gv_r (gv_r (gv_r hgv))))))))))
      | 4, _, 0, _ => exact Or.inl (gv_l (gv_r (gv_l (gv_l (gv_l (gv_l (gv_r (gv_r (gv_r (gv_r hgv))))))))))
      | 4, _, 1, _ => exact Or.inl (gv_r (gv_r (gv_r (gv_r (gv_r (gv_l (gv_l (gv_r (gv_r (gv_r (gv_r hgv)))))))))))
      | 4, _, 2, _ => exact Or.inl (gv_l (gv_r (gv_r (gv_r (gv_r (gv_l (gv_r (gv_r (gv_r (gv_r hgv))))))))))
      | 4, _, 3, _ => exact Or.inl (gv_r (gv_l (gv_r (gv_r (gv_l (gv_r (gv_r (gv_r (gv_r (gv_r hgv))))))))))
      | 4, _, 4, _ => exact absurd rfl hij
      | k + 5, h, _, _ => omega
      | _, _, k + 5, h => omega) hA
  refine ⟨adK, adV, h1, fun i hi => vk_R.of (A := args) ?_ (h2 i hi)⟩
  match i, hi with
  | 0, _ => exact hts _ (tbw_7 (List.mem_of_getElem? (i := 156) rfl))
  | 1, _ => exact hts _ (tbw_7 (List.mem_of_getElem? (i := 165) rfl))
  | 2, _ => exact hts _ (tbw_7 (List.mem_of_getElem? (i := 166) rfl))
  | 3, _ => exact hts _ (tbw_7 (List.mem_of_getElem? (i := 167) rfl))
  | 4, _ => exact hts _ (tbw_4 (List.mem_of_getElem? (i := 175) rfl))
  | k + 5, h => omega
set_option maxRecDepth 100000 in
set_option maxHeartbeats 16000000 in
theorem law_xs {s : State} {args : Array Value} (hts : ∀ w ∈ lw_tbl, w.before args s = true) (hgv : (Jvm.Cond.and given_1 narrow_1).before args s = true) : ∀ q ∈ xsL, ∃ a, vk_R q.1 q.2.1 q.2.2 a s := by
  intro q hq
  simp only [xsL, List.mem_cons, List.not_mem_nil, or_false] at hq
  rcases hq with rfl | rfl | rfl | rfl | rfl | rfl | rfl | rfl | rfl
  · exact str_of (hts _ (tbw_4 (List.mem_of_getElem? (i := 43) rfl))) (gv_r (gv_r (gv_r (gv_r (gv_r (gv_r (gv_r (gv_l (gv_l (gv_r (gv_r hgv)))))))))))
  · exact str_of (hts _ (tbw_4 (List.mem_of_getElem? (i := 123) rfl))) (gv_r (gv_l (gv_l (gv_r (gv_l (gv_r (gv_r (gv_l (gv_r (gv_r hgv))))))))))
  · exact str_of (hts _ (tbw_6 (List.mem_of_getElem? (i := 1) rfl))) (gv_l (gv_r (gv_r (gv_r (gv_r (gv_l (gv_l (gv_r (gv_r (gv_r hgv))))))))))
  · exact str_of (hts _ (tbw_3 (List.mem_of_getElem? (i := 159) rfl))) (gv_l (gv_r (gv_r (gv_l (gv_r (gv_l (gv_l (gv_l (gv_l (gv_r (gv_r hgv)))))))))))
  · exact str_of (hts _ (tbw_3 (List.mem_of_getElem? (i := 50) rfl))) (gv_r (gv_r (gv_r (gv_r (gv_r (gv_l (gv_r (gv_r (gv_r (gv_l (gv_r hgv)))))))))))
  · exact str_of (hts _ (tbw_4 (List.mem_of_getElem? (i := 63) rfl))) (gv_r (gv_l (gv_r (gv_l (gv_r (gv_l (gv_r (gv_l (gv_r (gv_r hgv))))))))))
  · exact str_of (hts _ (tbw_3 (List.mem_of_getElem? (i := 202) rfl))) (gv_l (gv_r (gv_r (gv_r (gv_r (gv_r (gv_l (gv_l (gv_l (gv_r (gv_r hgv)))))))))))
  · exact str_of (hts _ (tbw_3 (List.mem_of_getElem? (i := 214) rfl))) (gv_l (gv_r (gv_r (gv_r (gv_r (gv_l (gv_r (gv_l (gv_l (gv_r (gv_r hgv)))))))))))
  · exact str_of (hts _ (tbw_3 (List.mem_of_getElem? (i := 131) rfl))) (gv_l (gv_l (gv_r (gv_r (gv_r (gv_r (gv_r (gv_r (gv_l (gv_r hgv))))))))))
set_option maxRecDepth 100000 in
set_option maxHeartbeats 16000000 in
theorem law_env {s : State} {args : Array Value} (hts : ∀ w ∈ lw_tbl, w.before args s = true) (hgv : (Jvm.Cond.and given_1 narrow_1).before args s = true) : ∃ (D : va_G) (cA : Nat → ClassId) (pa : Nat), EN D cA s.heap.size pa s := by
  have hA : ∀ a : Nat, a < s.heap.size → ¬ s.heap.size ≤ a := fun a h => by omega
  obtain ⟨dC, dI, hK⟩ := law_cls hts
  obtain ⟨⟨cA, hcA⟩, hOV⟩ := law_arr hts
  obtain ⟨pa, p1, p2⟩ := law_parts hts hgv
  obtain ⟨adK, adV, t1, t2⟩ := law_txt hts hgv
  refine ⟨(dC, fun k => if k = 50 then adK else if k = 51 then adV else dI k), cA, pa, ⟨⟨fun k q hq => ?_, fun k q h => by simp at h⟩, hcA⟩, fun w hw hn => va_Nw.of (nest_tables hn) (hts w hw), hOV, ⟨p1, p2, ?_⟩, Nat.le_refl _⟩
  · have hlt : k < 13 := (List.getElem?_eq_some_iff.mp hq).1
    show u_Kn s q.1 q.2.1 q.2.2 (dC k) (if k = 50 then adK else if k = 51 then adV else dI k)
    rw [if_neg (by omega), if_neg (by omega)]
    exact hK k q hq
  · exact ⟨vx_Zqof (hts _ (tbw_3 (List.mem_of_getElem? (i := 37) rfl))) (hts _ (tbw_1 (List.mem_of_getElem? (i := 11) rfl))) (gv_r (gv_r (gv_r (gv_l (gv_r (gv_l (gv_l (gv_l (gv_l (gv_l (gv_r hgv))))))))))) hA, vx_Zqof (hts _ (tbw_3 (List.mem_of_getElem? (i := 39) rfl))) (hts _ (tbw_1 (List.mem_of_getElem? (i := 11) rfl))) (gv_l (gv_l (gv_r (gv_r (gv_l (gv_l (gv_l (gv_l (gv_l (gv_r hgv)))))))))) hA,
      va_Zof (hts _ (tbw_4 (List.mem_of_getElem? (i := 151) rfl))) (hts _ (tbw_1 (List.mem_of_getElem? (i := 23) rfl))) (va_eqt (gv_r (gv_l (gv_r (gv_r (gv_l (gv_l (gv_l (gv_l (gv_l (gv_r hgv))))))))))) hA, law_xs hts hgv, fun i hi => t2 i hi, t1,
      va_Nc.of (gv_l (gv_r (gv_r (gv_r (gv_l (gv_l (gv_l (gv_r (gv_r (gv_l (gv_r hgv))))))))))), va_Zqof (hts _ (tbw_4 (List.mem_of_getElem? (i := 200) rfl))) (hts _ (tbw_1 (List.mem_of_getElem? (i := 26) rfl))) (gv_l (gv_r (gv_r (gv_r (gv_l (gv_l (gv_l (gv_l (gv_l (gv_r hgv)))))))))) hA⟩
end Ug05start
section Ug06loop
/-! the law's loop, and the law from its entry (printed by wip/rows/genG5.py) -/
theorem sub6 {L i : Nat} (hL : L ≤ 384) (hi : i ≤ 400) : nI L - (Int8.ofInt 6).toInt32 < nI i ↔ L < i + 6 := by
  rw [Int32.lt_iff_toInt_lt, Int32.toInt_sub, show ((Int8.ofInt 6).toInt32).toInt = 6 by decide +kernel]
  have e1 : (nI L).toInt = (L : Int) := Int32.toInt_ofNat_of_lt (by omega)
  have e2 : (nI i).toInt = (i : Int) := Int32.toInt_ofNat_of_lt (by omega)
  rw [e1, e2]
  have e3 : ((L : Int) - 6).bmod (2 ^ 32) = (L : Int) - 6 := Int.bmod_eq_of_le (by omega) (by omega)
  rw [e3]
  omega
section LL
variable {p : Program} {la : Launch} {e : Env} {s : State} {m : MethodId} {args : Array Value} {below : List Frame} {meth : Method} {c : Code} {Q : State → Prop}
variable {D : va_G} {cA : Nat → ClassId} {B0 pa : Nat} {b L ox om oo : Nat} {xs : Nat → Int32} {BB QQ PP : Nat → Nat}
set_option maxHeartbeats 16000000 in
theorem law_loop (X : CX p s m args c D cA B0 7 cL_law RL) (E : EN D cA B0 pa s) (hl : la.stackTraces = false) (SC : Scr b L xs s B0) (Y : LYO BB QQ)
    (fin : ∀ (k n : Nat) (l : List (Nat × Value)) (h : AH), k ≤ 600128 → n ≤ 7301098 → WS p la e room_1 s m args below meth c Q D cA B0 7 1919 l [.int 1] h k n) :
    ∀ (d t : Nat) (h : AH) (kn : Int32), L < 6 * t + 6 * d → t ≤ 64 → LwI BB QQ PP h ox om oo kn → ∀ l : List (Nat × Value), lsel l [4, 3, 2, 1, 0] = [(4, vI (6 * t)), (3, .ref oo), (2, .ref om), (1, .ref ox), (0, .ref b)] → WS p la e room_1 s m args below meth c Q D cA B0 7 27 l [] h (178 + 9300 * t) (2585 + 113000 * t) := by
  have dka : ∀ {pc : Nat} {q : Instr × Nat}, lkd DL_a pc = some q → decode cL_law pc = .ok q := lkd_ok DL_a_ok
  have dkz : ∀ {pc : Nat} {q : Instr × Nat}, lkd DL_z pc = some q → decode cL_law pc = .ok q := lkd_ok DL_z_ok
  have hL := SC.2.2.2
  intro d
  induction d with
  | zero =>
    intro t h kn hd ht V l hsl
    refine WS.sel [4, 3, 2, 1, 0] hsl ?_
    iterate 2 refine fst1_ok X (dka rfl) rfl ?_
    refine slen_ok X SC (dka rfl) ?_
    iterate 2 refine fst1_ok X (dka rfl) rfl ?_
    refine br_ok X (dka rfl) rfl (show ((34 : Nat) : Int) + 1884 = ((1918 : Nat) : Int) from rfl) (fun _ => ?_) (fun q => absurd ((sub6 hL (by omega)).mpr (by omega)) q)
    refine fst1_ok X (dkz rfl) rfl ?_
    exact fin _ _ _ _ (by omega) (by omega)
  | succ d ih =>
    intro t h kn hd ht V l hsl
    refine WS.sel [4, 3, 2, 1, 0] hsl ?_
    iterate 2 refine fst1_ok X (dka rfl) rfl ?_
    refine slen_ok X SC (dka rfl) ?_
    iterate 2 refine fst1_ok X (dka rfl) rfl ?_
    refine br_ok X (dka rfl) rfl (show ((34 : Nat) : Int) + 1884 = ((1918 : Nat) : Int) from rfl) (fun _ => ?_) (fun q => ?_)
    · refine fst1_ok X (dkz rfl) rfl ?_
      exact fin _ _ _ _ (by omega) (by omega)
    · have hi : 6 * t + 6 ≤ L := by
        rcases Nat.lt_or_ge L (6 * t + 6) with z | z
        · exact absurd ((sub6 hL (by omega)).mpr z) q
        · exact z
      have nxt : ∀ (h' : AH) (kn' : Int32), LwI BB QQ PP h' ox om oo kn' → ∀ l' : List (Nat × Value), lsel l' [4, 3, 2, 1, 0] = [(4, vI (6 * t)), (3, .ref oo), (2, .ref om), (1, .ref ox), (0, .ref b)] → WS p la e room_1 s m args below meth c Q D cA B0 7 1912 l' [] h' (178 + 9300 * t + 9300) (2585 + 113000 * t + 113000) := by
        intro h' kn' V' l' hsl'
        refine WS.sel [4, 3, 2, 1, 0] hsl' ?_
        refine fst1_ok X (dkz rfl) rfl ?_
        refine br_ok X (dkz rfl) rfl (show ((1915 : Nat) : Int) + (-1888) = ((27 : Nat) : Int) from rfl) (fun _ => ?_) (fun q => absurd trivial q)
        have f2 : Value.int (nI (6 * t) + Int32.ofInt 6) = vI (6 * (t + 1)) := congrArg Value.int (by rw [show Int32.ofInt 6 = nI 6 by decide +kernel, nI_add, show 6 * (t + 1) = 6 * t + 6 by omega])
        refine WS.sel (l' := [(4, vI (6 * (t + 1))), (3, .ref oo), (2, .ref om), (1, .ref ox), (0, .ref b)]) [4, 3, 2, 1, 0] (by rw [← f2]; rfl) ?_
        exact WS.widen (by omega) (by omega) (ih (t + 1) h' kn' (by omega) (by omega) V' _ rfl)
      iterate 2 refine fst1_ok X (dka rfl) rfl ?_
      refine sld0_ok X SC (by omega) (dka rfl) (fun x => ?_)
      iterate 2 refine fst1_ok X (dka rfl) rfl ?_
      obtain ⟨w, hw, e0⟩ := i63 x
      rw [e0]
      match w, hw with
      | 0, _ =>
        refine tsw_ok X (off := 180) (tgt := 224) (dka rfl) (by decide +kernel) (by decide +kernel) (by decide +kernel) rfl ?_
        exact law_c0 X E hl SC hi Y V ⟨by omega, by omega⟩ nxt _ rfl
      | 1, _ =>
        refine tsw_ok X (off := 220) (tgt := 264) (dka rfl) (by decide +kernel) (by decide +kernel) (by decide +kernel) rfl ?_
        exact law_c1 X E hl SC hi Y V ⟨by omega, by omega⟩ nxt _ rfl
      | 2, _ =>
        refine tsw_ok X (off := 296) (tgt := 340) (dka rfl) (by decide +kernel) (by decide +kernel) (by decide +kernel) rfl ?_
        exact law_c2 X E hl SC hi Y V ⟨by omega, by omega⟩ nxt _ rfl
      | 3, _ =>
        refine tsw_ok X (off := 336) (tgt := 380) (dka rfl) (by decide +kernel) (by decide +kernel) (by decide +kernel) rfl ?_
        exact law_c3 X E hl SC hi Y V ⟨by omega, by omega⟩ nxt _ rfl
      | 4, _ =>
        refine tsw_ok X (off := 376) (tgt := 420) (dka rfl) (by decide +kernel) (by decide +kernel) (by decide +kernel) rfl ?_
        exact law_c4 X E hl SC hi Y V ⟨by omega, by omega⟩ nxt _ rfl
      | 5, _ =>
        refine tsw_ok X (off := 428) (tgt := 472) (dka rfl) (by decide +kernel) (by decide +kernel) (by decide +kernel) rfl ?_
        exact law_c5 X E hl SC hi Y V ⟨by omega, by omega⟩ nxt _ rfl
      | 6, _ =>
        refine tsw_ok X (off := 480) (tgt := 524) (dka rfl) (by decide +kernel) (by decide +kernel) (by decide +kernel) rfl ?_
        exact law_c6 X E hl SC hi Y V ⟨by omega, by omega⟩ nxt _ rfl
      | 7, _ =>
        refine tsw_ok X (off := 532) (tgt := 576) (dka rfl) (by decide +kernel) (by decide +kernel) (by decide +kernel) rfl ?_
        exact law_c7 X E hl SC hi Y V ⟨by omega, by omega⟩ nxt _ rfl
      | 8, _ =>
        refine tsw_ok X (off := 572) (tgt := 616) (dka rfl) (by decide +kernel) (by decide +kernel) (by decide +kernel) rfl ?_
        exact law_c8 X E hl SC hi Y V ⟨by omega, by omega⟩ nxt _ rfl
      | 9, _ =>
        refine tsw_ok X (off := 600) (tgt := 644) (dka rfl) (by decide +kernel) (by decide +kernel) (by decide +kernel) rfl ?_
        exact law_c9 X E hl SC hi Y V ⟨by omega, by omega⟩ nxt _ rfl
      | 10, _ =>
        refine tsw_ok X (off := 652) (tgt := 696) (dka rfl) (by decide +kernel) (by decide +kernel) (by decide +kernel) rfl ?_
        exact law_c10 X E hl SC hi Y V ⟨by omega, by omega⟩ nxt _ rfl
      | 11, _ =>
        refine tsw_ok X (off := 704) (tgt := 748) (dka rfl) (by decide +kernel) (by decide +kernel) (by decide +kernel) rfl ?_
        exact law_c11 X E hl SC hi Y V ⟨by omega, by omega⟩ nxt _ rfl
      | 12, _ =>
        refine tsw_ok X (off := 732) (tgt := 776) (dka rfl) (by decide +kernel) (by decide +kernel) (by decide +kernel) rfl ?_
        exact law_c12 X E hl SC hi Y V ⟨by omega, by omega⟩ nxt _ rfl
      | 13, _ =>
        refine tsw_ok X (off := 784) (tgt := 828) (dka rfl) (by decide +kernel) (by decide +kernel) (by decide +kernel) rfl ?_
        exact law_c13 X E hl SC hi Y V ⟨by omega, by omega⟩ nxt _ rfl
      | 14, _ =>
        refine tsw_ok X (off := 824) (tgt := 868) (dka rfl) (by decide +kernel) (by decide +kernel) (by decide +kernel) rfl ?_
        exact law_c14 X E hl SC hi Y V ⟨by omega, by omega⟩ nxt _ rfl
      | 15, _ =>
        refine tsw_ok X (off := 876) (tgt := 920) (dka rfl) (by decide +kernel) (by decide +kernel) (by decide +kernel) rfl ?_
        exact law_c15 X E hl SC hi Y V ⟨by omega, by omega⟩ nxt _ rfl
      | 16, _ =>
        refine tsw_ok X (off := 940) (tgt := 984) (dka rfl) (by decide +kernel) (by decide +kernel) (by decide +kernel) rfl ?_
        exact law_c16 X E hl SC hi Y V ⟨by omega, by omega⟩ nxt _ rfl
      | 17, _ =>
        refine tsw_ok X (off := 992) (tgt := 1036) (dka rfl) (by decide +kernel) (by decide +kernel) (by decide +kernel) rfl ?_
        exact law_c17 X E hl SC hi Y V ⟨by omega, by omega⟩ nxt _ rfl
      | 18, _ =>
        refine tsw_ok X (off := 1020) (tgt := 1064) (dka rfl) (by decide +kernel) (by decide +kernel) (by decide +kernel) rfl ?_
        exact law_c18 X E hl SC hi Y V ⟨by omega, by omega⟩ nxt _ rfl
      | 19, _ =>
        refine tsw_ok X (off := 1048) (tgt := 1092) (dka rfl) (by decide +kernel) (by decide +kernel) (by decide +kernel) rfl ?_
        exact law_c19 X E hl SC hi Y V ⟨by omega, by omega⟩ nxt _ rfl
      | 20, _ =>
        refine tsw_ok X (off := 1076) (tgt := 1120) (dka rfl) (by decide +kernel) (by decide +kernel) (by decide +kernel) rfl ?_
        exact law_c20 X E hl SC hi Y V ⟨by omega, by omega⟩ nxt _ rfl
      | 21, _ =>
        refine tsw_ok X (off := 1104) (tgt := 1148) (dka rfl) (by decide +kernel) (by decide +kernel) (by decide +kernel) rfl ?_
        exact law_c21 X E hl SC hi Y V ⟨by omega, by omega⟩ nxt _ rfl
      | 22, _ =>
        refine tsw_ok X (off := 1144) (tgt := 1188) (dka rfl) (by decide +kernel) (by decide +kernel) (by decide +kernel) rfl ?_
        exact law_c22 X E hl SC hi Y V ⟨by omega, by omega⟩ nxt _ rfl
      | 23, _ =>
        refine tsw_ok X (off := 1184) (tgt := 1228) (dka rfl) (by decide +kernel) (by decide +kernel) (by decide +kernel) rfl ?_
        exact law_c23 X E hl SC hi Y V ⟨by omega, by omega⟩ nxt _ rfl
      | 24, _ =>
        refine tsw_ok X (off := 1224) (tgt := 1268) (dka rfl) (by decide +kernel) (by decide +kernel) (by decide +kernel) rfl ?_
        exact law_c24 X E hl SC hi Y V ⟨by omega, by omega⟩ nxt _ rfl
      | 25, _ =>
        refine tsw_ok X (off := 1252) (tgt := 1296) (dka rfl) (by decide +kernel) (by decide +kernel) (by decide +kernel) rfl ?_
        exact law_c25 X E hl SC hi Y V ⟨by omega, by omega⟩ nxt _ rfl
      | 26, _ =>
        refine tsw_ok X (off := 1292) (tgt := 1336) (dka rfl) (by decide +kernel) (by decide +kernel) (by decide +kernel) rfl ?_
        exact law_c26 X E hl SC hi Y V ⟨by omega, by omega⟩ nxt _ rfl
      | 27, _ =>
        refine tsw_ok X (off := 1332) (tgt := 1376) (dka rfl) (by decide +kernel) (by decide +kernel) (by decide +kernel) rfl ?_
        exact law_c27 X E hl SC hi Y V ⟨by omega, by omega⟩ nxt _ rfl
      | 28, _ =>
        refine tsw_ok X (off := 1384) (tgt := 1428) (dka rfl) (by decide +kernel) (by decide +kernel) (by decide +kernel) rfl ?_
        exact law_c28 X E hl SC hi Y V ⟨by omega, by omega⟩ nxt _ rfl
      | 29, _ =>
        refine tsw_ok X (off := 1436) (tgt := 1480) (dka rfl) (by decide +kernel) (by decide +kernel) (by decide +kernel) rfl ?_
        exact law_c29 X E hl SC hi Y V ⟨by omega, by omega⟩ nxt _ rfl
      | 30, _ =>
        refine tsw_ok X (off := 1476) (tgt := 1520) (dka rfl) (by decide +kernel) (by decide +kernel) (by decide +kernel) rfl ?_
        exact law_c30 X E hl SC hi Y V ⟨by omega, by omega⟩ nxt _ rfl
      | 31, _ =>
        refine tsw_ok X (off := 1516) (tgt := 1560) (dka rfl) (by decide +kernel) (by decide +kernel) (by decide +kernel) rfl ?_
        exact law_c31 X E hl SC hi Y V ⟨by omega, by omega⟩ nxt _ rfl
      | 32, _ =>
        refine tsw_ok X (off := 1556) (tgt := 1600) (dka rfl) (by decide +kernel) (by decide +kernel) (by decide +kernel) rfl ?_
        exact law_c32 X E hl SC hi Y V ⟨by omega, by omega⟩ nxt _ rfl
      | 33, _ =>
        refine tsw_ok X (off := 1584) (tgt := 1628) (dka rfl) (by decide +kernel) (by decide +kernel) (by decide +kernel) rfl ?_
        exact law_c33 X E hl SC hi Y V ⟨by omega, by omega⟩ nxt _ rfl
      | 34, _ =>
        refine tsw_ok X (off := 1636) (tgt := 1680) (dka rfl) (by decide +kernel) (by decide +kernel) (by decide +kernel) rfl ?_
        exact law_c34 X E hl SC hi Y V ⟨by omega, by omega⟩ nxt _ rfl
      | 35, _ =>
        refine tsw_ok X (off := 1676) (tgt := 1720) (dka rfl) (by decide +kernel) (by decide +kernel) (by decide +kernel) rfl ?_
        exact law_c35 X E hl SC hi Y V ⟨by omega, by omega⟩ nxt _ rfl
      | 36, _ =>
        refine tsw_ok X (off := 1745) (tgt := 1789) (dka rfl) (by decide +kernel) (by decide +kernel) (by decide +kernel) rfl ?_
        exact law_c36 X E hl SC hi Y V ⟨by omega, by omega⟩ nxt _ rfl
      | 37, _ =>
        refine tsw_ok X (off := 1801) (tgt := 1845) (dka rfl) (by decide +kernel) (by decide +kernel) (by decide +kernel) rfl ?_
        exact law_c37 X E hl SC hi Y V ⟨by omega, by omega⟩ nxt _ rfl
      | 38, _ =>
        refine tsw_ok X (off := 1829) (tgt := 1873) (dka rfl) (by decide +kernel) (by decide +kernel) (by decide +kernel) rfl ?_
        exact law_c38 X E hl SC hi Y V ⟨by omega, by omega⟩ nxt _ rfl
      | 39, _ =>
        refine tsw_ok X (off := 1842) (tgt := 1886) (dka rfl) (by decide +kernel) (by decide +kernel) (by decide +kernel) rfl ?_
        exact law_c39 X E hl SC hi Y V ⟨by omega, by omega⟩ nxt _ rfl
      | 40, _ =>
        refine tsw_ok X (off := 1855) (tgt := 1899) (dka rfl) (by decide +kernel) (by decide +kernel) (by decide +kernel) rfl ?_
        exact law_c40 X E hl SC hi Y V ⟨by omega, by omega⟩ nxt _ rfl
      | w + 41, hw =>
        have e1 : (nI (w + 41)).toInt = ((w + 41 : Nat) : Int) := Int32.toInt_ofNat_of_lt (by omega)
        refine tswo_ok X (tgt := 1912) (dka rfl) (Or.inr (by rw [e1]; omega)) rfl ?_
        exact WS.widen (by omega) (by omega) (nxt _ _ V _ rfl)
end LL
set_option maxHeartbeats 8000000 in
/-- the law, from its entry -/
theorem whole_start {p : Program} {e : Env} {s : State} {m : MethodId} {below : List Frame} {meth : Method} {c : Code} (l : Launch) (hflags : l.flags = flags0) {b L : Nat} {xs : Nat → Int32} (hL : L ≤ 384) (C0 : lw_At p s m meth c b L xs) : W p l e room_1 s m #[Value.ref b] below meth c s.heap [] 0 0 (lw_Z below #[Value.ref b] s) (entryFrame m ([Value.ref b] : List Value).toArray 7) := by
  obtain ⟨hx, hb, hr, hml, hown, hts, hX, hbl, hlocks, hgv⟩ := id C0
  obtain ⟨D, cA, pa, E⟩ := law_env hts hgv
  have X : CX p s m #[Value.ref b] c D cA s.heap.size 7 cL_law RL := ⟨hx, hb, hml, hown, law_words hts, E.1, Nat.le_refl _⟩
  have hl0 : l.stackTraces = false := by
    unfold Launch.stackTraces
    rw [hflags]
    decide
  have SC : Scr b L xs s s.heap.size := ⟨hX, hbl, by omega, hL⟩
  have dk : ∀ {pc : Nat} {q : Instr × Nat}, lkd DL_a pc = some q → decode cL_law pc = .ok q := lkd_ok DL_a_ok
  have dkz : ∀ {pc : Nat} {q : Instr × Nat}, lkd DL_z pc = some q → decode cL_law pc = .ok q := lkd_ok DL_z_ok
  have fin : ∀ (k n : Nat) (l0 : List (Nat × Value)) (h : AH), k ≤ 600128 → n ≤ 7301098 → WS p l e room_1 s m #[Value.ref b] below meth c (lw_Z below #[Value.ref b] s) D cA s.heap.size 7 1919 l0 [.int 1] h k n := by
    intro k n l0 h hk hn H locs ls hH hls
    refine va_forget (fun q hq => hH.2.2.2 q hq) ?_
    refine W.widen (k := 600128) (n := 7301098) hk hn ?_
    exact lw_ret hx hb hr hlocks (dkz rfl)
  have key : WS p l e room_1 s m #[Value.ref b] below meth c (lw_Z below #[Value.ref b] s) D cA s.heap.size 7 0 (lv_args 0 [.ref b]) [] (fun _ => none) 0 0 := by
    refine new_ok X ncL_8 (dk rfl) (Nat.le_of_ble_eq_true rfl) (Nat.le_of_ble_eq_true rfl) (fun o1 q1 B1 => ?_)
    refine fst1_ok X (dk rfl) rfl ?_
    refine callI_ok (av := []) (r := [.ref o1]) X E (n6_init _ (hup_self _ _ _)) lkX6_init mlL_147 lmX6_init rfl ⟨Nat.le_of_ble_eq_true rfl, Nat.le_of_ble_eq_true rfl⟩ ⟨Nat.le_of_ble_eq_true rfl, Nat.le_of_ble_eq_true rfl⟩ (Nat.le_of_ble_eq_true rfl) (dk rfl) ?_
    rintro _ h1 ⟨rfl, S0, A0, u1, u2, u3, u4, u5, u6, u7, u8, u9, p1, p2, p3, p4, ar5, ar6, b7, c7, r7, p7, d7, e7, b8, c8, r8, s8, f8, p8, d8, e8, p9, d9, e9, t5, t6, tS, N, g1, g2, g3, g4, g5, g6, g7, g8⟩
    obtain ⟨BB, QQ, PP, Y, C1, F1⟩ := new6_st g1 g2 g3 g4 g5 g6 g7 g8
    refine fst1_ok X (dk rfl) rfl ?_
    refine new_ok X ncL_148 (dk rfl) (Nat.le_of_ble_eq_true rfl) (Nat.le_of_ble_eq_true rfl) (fun o2 q2 B2 => ?_)
    refine fst1_ok X (dk rfl) rfl ?_
    refine callI_ok (av := []) (r := [.ref o2]) X E (RF.c_init10 _ (hup_self _ _ _)) lkX10_init mlL_150 lmX10_init rfl ⟨Nat.le_of_ble_eq_true rfl, Nat.le_of_ble_eq_true rfl⟩ ⟨Nat.le_of_ble_eq_true rfl, Nat.le_of_ble_eq_true rfl⟩ (Nat.le_of_ble_eq_true rfl) (dk rfl) ?_
    rintro _ h2 ⟨rfl, ⟨S, A, hS, hA, M⟩, F2⟩
    refine fst1_ok X (dk rfl) rfl ?_
    refine new_ok X ncL_14 (dk rfl) (Nat.le_of_ble_eq_true rfl) (Nat.le_of_ble_eq_true rfl) (fun o3 q3 B3 => ?_)
    refine fst1_ok X (dk rfl) rfl ?_
    refine callIN_ok (av := []) (r := [.ref o3]) X E (c7o_init _ (hup_self _ _ _)) lkX7_init mnL_151 lmX7_init rfl ⟨Nat.le_of_ble_eq_true rfl, Nat.le_of_ble_eq_true rfl⟩ ⟨Nat.le_of_ble_eq_true rfl, Nat.le_of_ble_eq_true rfl⟩ (Nat.le_of_ble_eq_true rfl) (dk rfl) ?_
    rintro _ h3 ⟨rfl, e3⟩
    iterate 3 refine fst1_ok X (dk rfl) rfl ?_
    have V : LwI BB QQ PP h3 o1 o2 o3 0 := by
      rw [e3]
      refine ⟨st0, C1.ck (fun {b k vs} e hc => ?_), ⟨_, _, hup_self _ _ _⟩, S, A, 0, M.ext (Ext.new q3 _)⟩
      have n2 : b ≠ o2 := fun z => by rw [z, q2] at e; cases e
      have e2 := F2 b (k, vs) n2 (by rw [hup_ne _ _ n2]; exact e)
      have n3 : b ≠ o3 := fun z => by rw [z, q3] at e2; cases e2
      rw [hup_ne _ _ n3]
      exact e2
    refine WS.widen (k' := 178 + 9300 * 0) (n' := 2585 + 113000 * 0) (Nat.le_of_ble_eq_true rfl) (Nat.le_of_ble_eq_true rfl) ?_
    exact law_loop X E hl0 SC Y fin 65 0 h3 0 (by omega) (by omega) V _ rfl
  have hl := lv_entry ([.ref b]) (n := 7) (Nat.le_of_ble_eq_true rfl)
  rw [lg_entry_eq]
  exact key s.heap [] _ ⟨(fun a c h => by cases h), va_S.rf⟩ hl
end Ug06loop
