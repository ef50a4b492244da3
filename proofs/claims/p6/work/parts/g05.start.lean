/-! the start: what the Statement gives of it (printed by wip/rows/genG5.py) -/
theorem over_arr {args : Array Value} {s : State} {t : FieldType} (h : (Cond.arrayOver (.array t)).before args s = true) : ∃ comp c k, s.vm.findClass (FieldType.array t).toString = some comp ∧ s.vm.classes[c]? = some k ∧ k.kind = .array comp (.array t) ∧ s.vm.findClass ("[" ++ (FieldType.array t).toString) = some c := by
  simp only [Cond.before, Cond.holds, Cond.value, beq_iff_eq] at h
  cases hc : s.vm.findClass (FieldType.array t).toString with
  | none => simp [hc] at h
  | some comp =>
    simp only [hc, Option.bind_some, Option.bind_eq_some_iff, Option.map_eq_some_iff] at h
    obtain ⟨c, hi, k, hk, hb⟩ := h
    obtain ⟨hlt, hp, -⟩ := Array.findIdx?_eq_some_iff_getElem.mp hi
    have hkk : s.vm.classes[c] = k := (Array.getElem?_eq_some_iff.mp hk).2
    rw [hkk] at hp
    refine ⟨comp, c, k, rfl, hk, ?_⟩
    cases hkind : k.kind <;> rw [hkind] at hb hp <;> simp at hb hp
    exact ⟨by rw [hp, hb.1], hb.2⟩
theorem sel4 {y : MethodName} {s : State} {args : Array Value} (hc : y.cls = RJ5) (hy : y.cls ≠ "java/lang/invoke/MethodHandle" ∧ y.cls ≠ "java/lang/invoke/VarHandle") (h4 : (Cond.instantiable RJ4 4).before args s = true) (hlat : (Cond.selects RJ4 yJ5_isLatin1_aae02 yJ5_isLatin1_aae02).before args s = true)
    (hpriv : (Cond.privateMethod y).before args s = true) (hinst : (Cond.instanceMethod y).before args s = true) : (Cond.selects RJ4 y y).before args s = true := by
  obtain ⟨c, k, h1, -⟩ := Cond.instantiable_spec h4
  obtain ⟨c2, r2, m2, g1, g2, g3, g4, mk2, g5, g6⟩ := Cond.selects_spec hlat
  obtain ⟨mk, methM, hnamed, hmethM, -, -⟩ := Cond.instanceMethod_spec hinst
  have hfound : s.methodFound? y.cls y.name y.desc = some mk := State.methodFound?_of_named hnamed hy
  have hcls : mk.cls = m2.cls := Option.some.inj ((findClass_of_methodNamed hnamed).symm.trans (by rw [hc]; exact findClass_of_methodNamed g3))
  have hsel : selectMethod {} s.vm c mk = .method mk := selectMethod_private hmethM (Cond.privateMethod_at hpriv mk methM hnamed hmethM)
  simp only [Cond.before, Cond.holds, Cond.value, h1, hfound, hnamed, hsel, hcls, g5]
  simp; exact g6
set_option maxRecDepth 100000 in
theorem law_words {s : State} {args : Array Value} (hts : ∀ w ∈ lw_tbl, w.before args s = true) : ∀ w ∈ WT, w.before args s = true := by
  intro w hw
  rcases List.mem_append.mp hw with hw | hw
  · exact hts w (List.mem_filter.mp hw).1
  · have h4 := hts (Cond.instantiable RJ4 4) (by decide +kernel)
    have hl := hts (Cond.selects RJ4 yJ5_isLatin1_aae02 yJ5_isLatin1_aae02) (by decide +kernel)
    simp only [selT, List.mem_cons, List.not_mem_nil, or_false] at hw
    rcases hw with rfl | rfl | rfl | rfl
    · exact sel4 rfl ⟨by decide, by decide⟩ h4 hl (hts _ (by decide +kernel)) (hts _ (by decide +kernel))
    · exact sel4 rfl ⟨by decide, by decide⟩ h4 hl (hts _ (by decide +kernel)) (hts _ (by decide +kernel))
    · exact sel4 rfl ⟨by decide, by decide⟩ h4 hl (hts _ (by decide +kernel)) (hts _ (by decide +kernel))
    · exact sel4 rfl ⟨by decide, by decide⟩ h4 hl (hts _ (by decide +kernel)) (hts _ (by decide +kernel))
theorem str_of {args : Array Value} {s : State} {own : String} {k : Nat} {tx : String} (h1 : (Cond.stringRef own k tx).before args s = true) (h : (Cond.exactly (Term.string own k) "java/lang/String").before args s = true) : ∃ a, vk_R own k tx a s := by
  obtain ⟨a, c, cA, kA, q1, -⟩ := Cond.exactly_spec (args := args) (first := s) (o := none) (s := s) (idx := []) (t := Term.string own k) (cls := "java/lang/String") h
  exact ⟨a, vk_R.of h1 q1⟩
set_option maxRecDepth 100000 in
set_option maxHeartbeats 4000000 in
theorem law_cls {s : State} {args : Array Value} (hts : ∀ w ∈ lw_tbl, w.before args s = true) : ∃ (dC : Nat → ClassId) (dI : Nat → Nat → Nat), ∀ (k : Nat) (q : vw_C), vwCl[k]? = some q → u_Kn s q.1 q.2.1 q.2.2 (dC k) (dI k) := by
  have hW := law_words hts
  obtain ⟨c0, i0, k0⟩ := u_known (C := RJ0) (T := TJ0) (N := 4) (n := 4) hW cwJ0 (hts (.instantiable RJ0 4) (by decide +kernel))
  obtain ⟨c1, i1, k1⟩ := u_known (C := RJ4) (T := TJ4) (N := 4) (n := 4) hW cwJ4 (hts (.instantiable RJ4 4) (by decide +kernel))
  obtain ⟨c2, i2, k2⟩ := u_known (C := RX0) (T := TX0) (N := 1) (n := 1) hW cwX0 (hts (.instantiable RX0 1) (by decide +kernel))
  obtain ⟨c3, i3, k3⟩ := u_known (C := RX1) (T := TX1) (N := 5) (n := 5) hW cwX1 (hts (.instantiable RX1 5) (by decide +kernel))
  obtain ⟨c4, i4, k4⟩ := u_known (C := RX2) (T := TX2) (N := 3) (n := 3) hW cwX2 (hts (.instantiable RX2 3) (by decide +kernel))
  obtain ⟨c5, i5, k5⟩ := u_known (C := RX3) (T := TX3) (N := 1) (n := 1) hW cwX3 (hts (.instantiable RX3 1) (by decide +kernel))
  obtain ⟨c6, i6, k6⟩ := u_known (C := RX4) (T := TX4) (N := 5) (n := 5) hW cwX4 (hts (.instantiable RX4 5) (by decide +kernel))
  obtain ⟨c7, i7, k7⟩ := u_known (C := RX5) (T := TX5) (N := 3) (n := 3) hW cwX5 (hts (.instantiable RX5 3) (by decide +kernel))
  obtain ⟨c8, i8, k8⟩ := u_known (C := RX6) (T := TX6) (N := 14) (n := 14) hW cwX6 (hts (.instantiable RX6 14) (by decide +kernel))
  obtain ⟨c9, i9, k9⟩ := u_known (C := RX7) (T := TX7) (N := 2) (n := 2) hW cwX7 (hts (.instantiable RX7 2) (by decide +kernel))
  obtain ⟨c10, i10, k10⟩ := u_known (C := RX8) (T := TX8) (N := 5) (n := 5) hW cwX8 (hts (.instantiable RX8 5) (by decide +kernel))
  obtain ⟨c11, i11, k11⟩ := u_known (C := RX9) (T := TX9) (N := 3) (n := 3) hW cwX9 (hts (.instantiable RX9 3) (by decide +kernel))
  obtain ⟨c12, i12, k12⟩ := u_known (C := RX10) (T := TX10) (N := 6) (n := 6) hW cwX10 (hts (.instantiable RX10 6) (by decide +kernel))
  have h0 : ∀ k : Nat, ∃ q : ClassId × (Nat → Nat), ∀ r : vw_C, vwCl[k]? = some r → u_Kn s r.1 r.2.1 r.2.2 q.1 q.2 := by
    intro k
    match k with
    | 0 => exact ⟨(c0, i0), fun r hr => by cases hr; exact k0⟩
    | 1 => exact ⟨(c1, i1), fun r hr => by cases hr; exact k1⟩
    | 2 => exact ⟨(c2, i2), fun r hr => by cases hr; exact k2⟩
    | 3 => exact ⟨(c3, i3), fun r hr => by cases hr; exact k3⟩
    | 4 => exact ⟨(c4, i4), fun r hr => by cases hr; exact k4⟩
    | 5 => exact ⟨(c5, i5), fun r hr => by cases hr; exact k5⟩
    | 6 => exact ⟨(c6, i6), fun r hr => by cases hr; exact k6⟩
    | 7 => exact ⟨(c7, i7), fun r hr => by cases hr; exact k7⟩
    | 8 => exact ⟨(c8, i8), fun r hr => by cases hr; exact k8⟩
    | 9 => exact ⟨(c9, i9), fun r hr => by cases hr; exact k9⟩
    | 10 => exact ⟨(c10, i10), fun r hr => by cases hr; exact k10⟩
    | 11 => exact ⟨(c11, i11), fun r hr => by cases hr; exact k11⟩
    | 12 => exact ⟨(c12, i12), fun r hr => by cases hr; exact k12⟩
    | k + 13 => exact ⟨(c0, i0), fun r hr => by simp at hr⟩
  obtain ⟨f, hf⟩ := Classical.axiomOfChoice h0
  exact ⟨fun k => (f k).1, fun k => (f k).2, fun k q hq => hf k q hq⟩
set_option maxRecDepth 100000 in
set_option maxHeartbeats 4000000 in
theorem law_arr {s : State} {args : Array Value} (hts : ∀ w ∈ lw_tbl, w.before args s = true) : (∃ cA : Nat → ClassId, KA cA s) ∧ OV #[] s := by
  have o3 := hts (Cond.arrayOver (.object RX5)) (by decide +kernel)
  have o4 := hts (Cond.arrayOver (.object RX0)) (by decide +kernel)
  have o5 := hts (Cond.arrayOver (.array .int)) (by decide +kernel)
  have o6 := hts (Cond.arrayOver (.array (.array .int))) (by decide +kernel)
  refine ⟨?_, OV.moved (A := args) (Vm.Alike.refl _) (fun kd h1 h2 => ?_)⟩
  · have h0 : ∀ k : Nat, ∃ cA : ClassId, 100 ≤ k → k < 108 → ∃ (kA : Class) (comp : ClassId), s.vm.classes[cA]? = some kA ∧ kA.kind = .array comp (aty k) ∧ s.vm.findClass ("[" ++ (aty k).toString) = some cA ∧ ((aty k).isReference = true → s.vm.findClass (cnm (aty k)) = some comp) := by
      intro k
      obtain ⟨c, k1, comp, h1, h2, h3⟩ := Cond.arrayClass_spec (hts (Cond.arrayClass .int) (by decide +kernel))
      by_cases e : k < 100 ∨ 108 ≤ k
      · exact ⟨c, fun h1 h2 => by omega⟩
      have hk : k = 100 ∨ k = 101 ∨ k = 102 ∨ k = 103 ∨ k = 104 ∨ k = 105 ∨ k = 106 ∨ k = 107 := by omega
      rcases hk with rfl | rfl | rfl | rfl | rfl | rfl | rfl | rfl
      · exact ⟨c, fun _ _ => ⟨k1, comp, h2, h3, h1, fun z => by cases z⟩⟩
      · obtain ⟨c, k1, comp, h1, h2, h3⟩ := Cond.arrayClass_spec (hts (Cond.arrayClass .boolean) (by decide +kernel))
        exact ⟨c, fun _ _ => ⟨k1, comp, h2, h3, h1, fun z => by cases z⟩⟩
      · obtain ⟨c, k1, comp, h1, h2, h3⟩ := Cond.arrayClass_spec (hts (Cond.arrayClass .byte) (by decide +kernel))
        exact ⟨c, fun _ _ => ⟨k1, comp, h2, h3, h1, fun z => by cases z⟩⟩
      · obtain ⟨comp, c, k1, h1, -, h2, h3, h4⟩ := Cond.arrayOver_spec o3
        exact ⟨c, fun _ _ => ⟨k1, comp, h2, h3, h4, fun _ => h1⟩⟩
      · obtain ⟨comp, c, k1, h1, -, h2, h3, h4⟩ := Cond.arrayOver_spec o4
        exact ⟨c, fun _ _ => ⟨k1, comp, h2, h3, h4, fun _ => h1⟩⟩
      · obtain ⟨comp, c, k1, h1, h2, h3, h4⟩ := over_arr o5
        exact ⟨c, fun _ _ => ⟨k1, comp, h2, h3, h4, fun _ => h1⟩⟩
      · obtain ⟨comp, c, k1, h1, h2, h3, h4⟩ := over_arr o6
        exact ⟨c, fun _ _ => ⟨k1, comp, h2, h3, h4, fun _ => h1⟩⟩
      · exact ⟨c, fun _ _ => ⟨k1, comp, h2, h3, h1, fun z => by cases z⟩⟩
    obtain ⟨f, hf⟩ := Classical.axiomOfChoice h0
    exact ⟨f, hf⟩
  · have hk : kd = 103 ∨ kd = 104 ∨ kd = 105 ∨ kd = 106 := by omega
    rcases hk with rfl | rfl | rfl | rfl
    · exact o3
    · exact o4
    · exact o5
    · exact o6
set_option maxRecDepth 100000 in
set_option maxHeartbeats 8000000 in
theorem law_parts {s : State} {args : Array Value} (hts : ∀ w ∈ lw_tbl, w.before args s = true) (hgv : (Jvm.Cond.and given_1 narrow_1).before args s = true) :
    ∃ pa : Nat, va_Z RX6 "PARTS" "[I" (.ref pa) (fun q : Nat => s.heap.size ≤ q) s s.heap ∧ va_T .int pa 8 partsF (fun q : Nat => s.heap.size ≤ q) s s.heap := by
  have hs := flat_of_before _ hgv
  have hA : ∀ a : Nat, a < s.heap.size → ¬ s.heap.size ≤ a := fun a h => by omega
  obtain ⟨t, h1, h2⟩ := va_Tof (s := s) (args := args) (tm := Term.static "Branchmatch" "PARTS" "[I") (ty := .int) (N := 8) (f := partsF) (A := fun q : Nat => s.heap.size ≤ q) (by decide) (hs _ (by decide +kernel)) (va_eqt (hs (Cond.eq (.length (.static "Branchmatch" "PARTS" "[I")) (.int 8)) (by decide +kernel))) (fun j hj => by
    match j, hj with
    | 0, _ => exact va_eqt (hs (Cond.eq (.elem (.static "Branchmatch" "PARTS" "[I") (.int 0)) (.int 0)) (by decide +kernel))
    | 1, _ => exact va_eqt (hs (Cond.eq (.elem (.static "Branchmatch" "PARTS" "[I") (.int 1)) (.int 0)) (by decide +kernel))
    | 2, _ => exact va_eqt (hs (Cond.eq (.elem (.static "Branchmatch" "PARTS" "[I") (.int 2)) (.int 1)) (by decide +kernel))
    | 3, _ => exact va_eqt (hs (Cond.eq (.elem (.static "Branchmatch" "PARTS" "[I") (.int 3)) (.int 1)) (by decide +kernel))
    | 4, _ => exact va_eqt (hs (Cond.eq (.elem (.static "Branchmatch" "PARTS" "[I") (.int 4)) (.int 2)) (by decide +kernel))
    | 5, _ => exact va_eqt (hs (Cond.eq (.elem (.static "Branchmatch" "PARTS" "[I") (.int 5)) (.int 2)) (by decide +kernel))
    | 6, _ => exact va_eqt (hs (Cond.eq (.elem (.static "Branchmatch" "PARTS" "[I") (.int 6)) (.int 3)) (by decide +kernel))
    | 7, _ => exact va_eqt (hs (Cond.eq (.elem (.static "Branchmatch" "PARTS" "[I") (.int 7)) (.int 3)) (by decide +kernel))
    | k + 8, h => omega) hA
  exact ⟨t, va_Zof (hts _ (by decide +kernel)) (hts _ (by decide +kernel)) h1 hA, h2⟩
set_option maxRecDepth 100000 in
set_option maxHeartbeats 16000000 in
theorem law_txt {s : State} {args : Array Value} (hts : ∀ w ∈ lw_tbl, w.before args s = true) (hgv : (Jvm.Cond.and given_1 narrow_1).before args s = true) :
    ∃ adK adV : Nat → Nat, vk_S 5 scL scB adK adV (fun q : Nat => s.heap.size ≤ q) s s.heap ∧ ∀ i, i < 5 → vk_R (scO i) (scK i) (scT i) (adK i) s := by
  have hs := flat_of_before _ hgv
  have hA : ∀ a : Nat, a < s.heap.size → ¬ s.heap.size ≤ a := fun a h => by omega
  obtain ⟨adK, adV, h1, h2⟩ := vk_Sof (s := s) (args := args) (N := 5) (tm := fun i => Term.string (scO i) (scK i)) (len := scL) (byt := scB) (A := fun q : Nat => s.heap.size ≤ q) (by decide)
    (fun i hi => by
      match i, hi with
      | 0, _ => exact hs _ (by decide +kernel)
      | 1, _ => exact hs _ (by decide +kernel)
      | 2, _ => exact hs _ (by decide +kernel)
      | 3, _ => exact hs _ (by decide +kernel)
      | 4, _ => exact hs _ (by decide +kernel)
      | k + 5, h => omega)
    (fun i hi => by
      match i, hi with
      | 0, _ => exact hs _ (by decide +kernel)
      | 1, _ => exact hs _ (by decide +kernel)
      | 2, _ => exact hs _ (by decide +kernel)
      | 3, _ => exact hs _ (by decide +kernel)
      | 4, _ => exact hs _ (by decide +kernel)
      | k + 5, h => omega)
    (fun i hi => by
      match i, hi with
      | 0, _ => exact hs _ (by decide +kernel)
      | 1, _ => exact hs _ (by decide +kernel)
      | 2, _ => exact hs _ (by decide +kernel)
      | 3, _ => exact hs _ (by decide +kernel)
      | 4, _ => exact hs _ (by decide +kernel)
      | k + 5, h => omega)
    (fun i hi => by
      match i, hi with
      | 0, _ => exact hs _ (by decide +kernel)
      | 1, _ => exact hs _ (by decide +kernel)
      | 2, _ => exact hs _ (by decide +kernel)
      | 3, _ => exact hs _ (by decide +kernel)
      | 4, _ => exact hs _ (by decide +kernel)
      | k + 5, h => omega)
    (fun i hi j hj => by
      match i, hi with
      | 0, _ =>
        have hj2 : j < 0 := hj
        omega
      | 1, _ =>
        have hj2 : j < 1 := hj
        match j, hj2 with
        | 0, _ => exact hs _ (by decide +kernel)
        | k + 1, h => omega
      | 2, _ =>
        have hj2 : j < 1 := hj
        match j, hj2 with
        | 0, _ => exact hs _ (by decide +kernel)
        | k + 1, h => omega
      | 3, _ =>
        have hj2 : j < 1 := hj
        match j, hj2 with
        | 0, _ => exact hs _ (by decide +kernel)
        | k + 1, h => omega
      | 4, _ =>
        have hj2 : j < 8 := hj
        match j, hj2 with
        | 0, _ => exact hs _ (by decide +kernel)
        | 1, _ => exact hs _ (by decide +kernel)
        | 2, _ => exact hs _ (by decide +kernel)
        | 3, _ => exact hs _ (by decide +kernel)
        | 4, _ => exact hs _ (by decide +kernel)
        | 5, _ => exact hs _ (by decide +kernel)
        | 6, _ => exact hs _ (by decide +kernel)
        | 7, _ => exact hs _ (by decide +kernel)
        | k + 8, h => omega
      | k + 5, h => omega)
    (fun i j hi hj hij => by
      match i, hi, j, hj with
      | 0, _, 0, _ => exact absurd rfl hij
      | 0, _, 1, _ => first | exact Or.inl (hs _ (by decide +kernel)) | exact Or.inr (hs _ (by decide +kernel))
      | 0, _, 2, _ => first | exact Or.inl (hs _ (by decide +kernel)) | exact Or.inr (hs _ (by decide +kernel))
      | 0, _, 3, _ => first | exact Or.inl (hs _ (by decide +kernel)) | exact Or.inr (hs _ (by decide +kernel))
      | 0, _, 4, _ => first | exact Or.inl (hs _ (by decide +kernel)) | exact Or.inr (hs _ (by decide +kernel))
      | 1, _, 0, _ => first | exact Or.inl (hs _ (by decide +kernel)) | exact Or.inr (hs _ (by decide +kernel))
      | 1, _, 1, _ => exact absurd rfl hij
      | 1, _, 2, _ => first | exact Or.inl (hs _ (by decide +kernel)) | exact Or.inr (hs _ (by decide +kernel))
      | 1, _, 3, _ => first | exact Or.inl (hs _ (by decide +kernel)) | exact Or.inr (hs _ (by decide +kernel))
      | 1, _, 4, _ => first | exact Or.inl (hs _ (by decide +kernel)) | exact Or.inr (hs _ (by decide +kernel))
      | 2, _, 0, _ => first | exact Or.inl (hs _ (by decide +kernel)) | exact Or.inr (hs _ (by decide +kernel))
      | 2, _, 1, _ => first | exact Or.inl (hs _ (by decide +kernel)) | exact Or.inr (hs _ (by decide +kernel))
      | 2, _, 2, _ => exact absurd rfl hij
      | 2, _, 3, _ => first | exact Or.inl (hs _ (by decide +kernel)) | exact Or.inr (hs _ (by decide +kernel))
      | 2, _, 4, _ => first | exact Or.inl (hs _ (by decide +kernel)) | exact Or.inr (hs _ (by decide +kernel))
      | 3, _, 0, _ => first | exact Or.inl (hs _ (by decide +kernel)) | exact Or.inr (hs _ (by decide +kernel))
      | 3, _, 1, _ => first | exact Or.inl (hs _ (by decide +kernel)) | exact Or.inr (hs _ (by decide +kernel))
      | 3, _, 2, _ => first | exact Or.inl (hs _ (by decide +kernel)) | exact Or.inr (hs _ (by decide +kernel))
      | 3, _, 3, _ => exact absurd rfl hij
      | 3, _, 4, _ => first | exact Or.inl (hs _ (by decide +kernel)) | exact Or.inr (hs _ (by decide +kernel))
      | 4, _, 0, _ => first | exact Or.inl (hs _ (by decide +kernel)) | exact Or.inr (hs _ (by decide +kernel))
      | 4, _, 1, _ => first | exact Or.inl (hs _ (by decide +kernel)) | exact Or.inr (hs _ (by decide +kernel))
      | 4, _, 2, _ => first | exact Or.inl (hs _ (by decide +kernel)) | exact Or.inr (hs _ (by decide +kernel))
      | 4, _, 3, _ => first | exact Or.inl (hs _ (by decide +kernel)) | exact Or.inr (hs _ (by decide +kernel))
      | 4, _, 4, _ => exact absurd rfl hij
      | k + 5, h, _, _ => omega
      | _, _, k + 5, h => omega) hA
  refine ⟨adK, adV, h1, fun i hi => vk_R.of (A := args) ?_ (h2 i hi)⟩
  match i, hi with
  | 0, _ => exact hts _ (by decide +kernel)
  | 1, _ => exact hts _ (by decide +kernel)
  | 2, _ => exact hts _ (by decide +kernel)
  | 3, _ => exact hts _ (by decide +kernel)
  | 4, _ => exact hts _ (by decide +kernel)
  | k + 5, h => omega
set_option maxRecDepth 100000 in
set_option maxHeartbeats 16000000 in
theorem law_xs {s : State} {args : Array Value} (hts : ∀ w ∈ lw_tbl, w.before args s = true) (hgv : (Jvm.Cond.and given_1 narrow_1).before args s = true) : ∀ q ∈ xsL, ∃ a, vk_R q.1 q.2.1 q.2.2 a s := by
  have hs := flat_of_before _ hgv
  intro q hq
  simp only [xsL, List.mem_cons, List.not_mem_nil, or_false] at hq
  rcases hq with rfl | rfl | rfl | rfl | rfl | rfl | rfl | rfl | rfl
  · exact str_of (hts _ (by decide +kernel)) (hs _ (by decide +kernel))
  · exact str_of (hts _ (by decide +kernel)) (hs _ (by decide +kernel))
  · exact str_of (hts _ (by decide +kernel)) (hs _ (by decide +kernel))
  · exact str_of (hts _ (by decide +kernel)) (hs _ (by decide +kernel))
  · exact str_of (hts _ (by decide +kernel)) (hs _ (by decide +kernel))
  · exact str_of (hts _ (by decide +kernel)) (hs _ (by decide +kernel))
  · exact str_of (hts _ (by decide +kernel)) (hs _ (by decide +kernel))
  · exact str_of (hts _ (by decide +kernel)) (hs _ (by decide +kernel))
  · exact str_of (hts _ (by decide +kernel)) (hs _ (by decide +kernel))
set_option maxRecDepth 100000 in
set_option maxHeartbeats 16000000 in
theorem law_env {s : State} {args : Array Value} (hts : ∀ w ∈ lw_tbl, w.before args s = true) (hgv : (Jvm.Cond.and given_1 narrow_1).before args s = true) : ∃ (D : va_G) (cA : Nat → ClassId) (pa : Nat), EN D cA s.heap.size pa s := by
  have hs := flat_of_before _ hgv
  have hA : ∀ a : Nat, a < s.heap.size → ¬ s.heap.size ≤ a := fun a h => by omega
  obtain ⟨dC, dI, hK⟩ := law_cls hts
  obtain ⟨⟨cA, hcA⟩, hOV⟩ := law_arr hts
  obtain ⟨pa, p1, p2⟩ := law_parts hts hgv
  obtain ⟨adK, adV, t1, t2⟩ := law_txt hts hgv
  refine ⟨(dC, fun k => if k = 50 then adK else if k = 51 then adV else dI k), cA, pa, ⟨⟨fun k q hq => ?_, fun k q h => by simp at h⟩, hcA⟩, fun w hw hn => va_Nw.of (nest_tables hn) (hts w hw), hOV, ⟨p1, p2, ?_⟩, Nat.le_refl _⟩
  · have hlt : k < 13 := (List.getElem?_eq_some_iff.mp hq).1
    show u_Kn s q.1 q.2.1 q.2.2 (dC k) (if k = 50 then adK else if k = 51 then adV else dI k)
    rw [if_neg (by omega), if_neg (by omega)]
    exact hK k q hq
  · exact ⟨vx_Zqof (hts _ (by decide +kernel)) (hts _ (by decide +kernel)) (hs _ (by decide +kernel)) hA, vx_Zqof (hts _ (by decide +kernel)) (hts _ (by decide +kernel)) (hs _ (by decide +kernel)) hA,
      va_Zof (hts _ (by decide +kernel)) (hts _ (by decide +kernel)) (va_eqt (hs (Cond.eq (.static "java/lang/String" "COMPACT_STRINGS" "Z") (.int 1)) (by decide +kernel))) hA, law_xs hts hgv, fun i hi => t2 i hi, t1,
      va_Nc.of (hs (Cond.not (.castable "java/lang/IllegalArgumentException" "java/lang/IndexOutOfBoundsException")) (by decide +kernel)), va_Zqof (hts _ (by decide +kernel)) (hts _ (by decide +kernel)) (hs _ (by decide +kernel)) hA⟩
